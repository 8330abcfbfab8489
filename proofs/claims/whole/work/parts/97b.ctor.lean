/-! CONSTRUCTORS: rows, minors, stairs -/
section CT2
variable {xs : List Int32} {fr lo z pc p l c u1 u2 u3 idx i k : Nat} {ls : List (Option Value)} {st : List Value} {w : ax_W} {Q : Outcome → ax_W → Prop} {M : ax_M}
theorem ro_fill {c d A : Nat} {fs : List Value} {wS : ax_W} (hcA : c < A) (hf : fs[0]? = some (.ref A)) (hS : wS[c]? = some (5, fs)) (hfr : 2 ≤ fr) (hlo : 60 ≤ lo)
    (K : ∀ w', w'.length = A + 1 + 2 * 12 → (∀ j, j < A → w'[j]? = wS[j]?) → w'[A]? = some (37, (List.range 12).map (fun j => .ref (A + 1 + 2 * j))) → (∀ j, j < 12 → whA w' (A + 1 + 2 * j)) → ax_sz w' = ax_sz wS + 35 * 12 → fin xs fr lo 16 43 [some (.ref c), some (.int (jI ((12 : Nat) : Int)))] [] w' Q) :
    ∀ (n k : Nat) (w : ax_W), k + n = 12 → w.length = A + 1 + 2 * k → (∀ j, j < A → w[j]? = wS[j]?) → w[A]? = some (37, (List.range 12).map (fun j => if j < k then .ref (A + 1 + 2 * j) else .null)) → (∀ j, j < k → whA w (A + 1 + 2 * j)) → ax_sz w = ax_sz wS + 35 * k → fin xs fr lo 16 15 [some (.ref c), some (.int (jI (k : Int)))] [] w Q := by
  intro n
  induction n with
  | zero =>
    intro k w hk hlen hag harr hwh hsz
    obtain rfl : k = 12 := by omega
    refine fi_step (pc' := 16) m_Ro_init rfl rfl ?_
    refine fi_step (pc' := 17) m_Ro_init rfl rfl ?_
    refine k_get (p := 20) m_Ro_init rfl rfl ((hag c hcA).trans hS) hf ?_
    refine fi_alen m_Ro_init rfl harr (by decide) ?_
    rw [List.length_map, List.length_range, show (12 : Nat).toInt32 = jI 12 from Int32.ofInt_eq_ofNat.symm]
    refine s_ic_ge (p := 24) m_Ro_init rfl rfl (by omega) (by omega) (by omega) (by omega) (fun hbr => ?_) (fun hbr => False.elim (by omega))
    refine K w hlen hag ?_ hwh hsz
    rw [harr, rg_congr (g := fun j => .ref (A + 1 + 2 * j)) (fun j hj => by rw [if_pos hj])]
  | succ n ih =>
    intro k w hk hlen hag harr hwh hsz
    refine fi_step (pc' := 16) m_Ro_init rfl rfl ?_
    refine fi_step (pc' := 17) m_Ro_init rfl rfl ?_
    refine k_get (p := 20) m_Ro_init rfl rfl ((hag c hcA).trans hS) hf ?_
    refine fi_alen m_Ro_init rfl harr (by decide) ?_
    rw [List.length_map, List.length_range, show (12 : Nat).toInt32 = jI 12 from Int32.ofInt_eq_ofNat.symm]
    refine s_ic_ge (p := 24) m_Ro_init rfl rfl (by omega) (by omega) (by omega) (by omega) (fun hbr => False.elim (by omega)) (fun hbr => ?_)
    refine fi_step (pc' := 25) m_Ro_init rfl rfl ?_
    refine k_get (p := 28) m_Ro_init rfl rfl ((hag c hcA).trans hS) hf ?_
    refine fi_step (pc' := 29) m_Ro_init rfl rfl ?_
    refine n_wh (p := 36) m_Ro_init rfl rfl rfl rfl hfr hlo (Nat.le_of_ble_eq_true rfl) (fun w1 l1 a1 q1 z1 => ?_)
    rw [hlen] at q1
    rw [hlen]
    refine k_aast (p := 37) m_Ro_init rfl rfl q1.1 ((a1 A (by omega)).trans harr) (by omega) (by rw [List.length_map, List.length_range]; omega) (by omega) (fun w2 hG => ?_)
    obtain ⟨l2, a2, n2, z2⟩ := hG
    refine s_iinc (p := 40) m_Ro_init rfl rfl rfl ?_
    refine fi_step (pc' := 15) m_Ro_init rfl rfl ?_
    rw [show (k : Int) + 1 = ((k + 1 : Nat) : Int) by omega]
    refine ih (k + 1) w2 (by omega) (by omega) (fun j hj => ((a2 j (by omega)).trans (a1 j (by omega))).trans (hag j hj)) ?_ (fun j hj => ?_) (by omega)
    · rw [n2, Int.toNat_natCast, rg_set]
      rw [rg_congr (g := fun j => if j < k + 1 then .ref (A + 1 + 2 * j) else .null) (fun j hj => ?_)]
      by_cases e : j = k
      · subst e; rw [if_pos rfl, if_pos (by omega)]
      · rw [if_neg e]
        by_cases e' : j < k
        · rw [if_pos e', if_pos (by omega)]
        · rw [if_neg e', if_neg (by omega)]
    · by_cases e : j = k
      · subst e; exact whA_keep q1 (a2 _ (by omega)) (a2 _ (by omega))
      · exact whA_keep (hwh j (by omega)) ((a2 _ (by omega)).trans (a1 _ (by omega))) ((a2 _ (by omega)).trans (a1 _ (by omega)))
theorem mi_fillN {c d A : Nat} {fs : List Value} {wS : ax_W} (hcA : c < A) (hf : fs[1]? = some (.ref A)) (hS : wS[c]? = some (3, fs)) (hfr : 2 ≤ fr) (hlo : 60 ≤ lo)
    (K : ∀ w', w'.length = A + 1 + 2 * 36 → (∀ j, j < A → w'[j]? = wS[j]?) → w'[A]? = some (37, (List.range 36).map (fun j => .ref (A + 1 + 2 * j))) → (∀ j, j < 36 → whA w' (A + 1 + 2 * j)) → ax_sz w' = ax_sz wS + 35 * 36 → fin xs fr lo 14 48 [some (.ref c), some (.ref d), some (.int (jI ((36 : Nat) : Int)))] [] w' Q) :
    ∀ (n k : Nat) (w : ax_W), k + n = 36 → w.length = A + 1 + 2 * k → (∀ j, j < A → w[j]? = wS[j]?) → w[A]? = some (37, (List.range 36).map (fun j => if j < k then .ref (A + 1 + 2 * j) else .null)) → (∀ j, j < k → whA w (A + 1 + 2 * j)) → ax_sz w = ax_sz wS + 35 * k → fin xs fr lo 14 20 [some (.ref c), some (.ref d), some (.int (jI (k : Int)))] [] w Q := by
  intro n
  induction n with
  | zero =>
    intro k w hk hlen hag harr hwh hsz
    obtain rfl : k = 36 := by omega
    refine fi_step (pc' := 21) m_Mi_init rfl rfl ?_
    refine fi_step (pc' := 22) m_Mi_init rfl rfl ?_
    refine k_get (p := 25) m_Mi_init rfl rfl ((hag c hcA).trans hS) hf ?_
    refine fi_alen m_Mi_init rfl harr (by decide) ?_
    rw [List.length_map, List.length_range, show (36 : Nat).toInt32 = jI 36 from Int32.ofInt_eq_ofNat.symm]
    refine s_ic_ge (p := 29) m_Mi_init rfl rfl (by omega) (by omega) (by omega) (by omega) (fun hbr => ?_) (fun hbr => False.elim (by omega))
    refine K w hlen hag ?_ hwh hsz
    rw [harr, rg_congr (g := fun j => .ref (A + 1 + 2 * j)) (fun j hj => by rw [if_pos hj])]
  | succ n ih =>
    intro k w hk hlen hag harr hwh hsz
    refine fi_step (pc' := 21) m_Mi_init rfl rfl ?_
    refine fi_step (pc' := 22) m_Mi_init rfl rfl ?_
    refine k_get (p := 25) m_Mi_init rfl rfl ((hag c hcA).trans hS) hf ?_
    refine fi_alen m_Mi_init rfl harr (by decide) ?_
    rw [List.length_map, List.length_range, show (36 : Nat).toInt32 = jI 36 from Int32.ofInt_eq_ofNat.symm]
    refine s_ic_ge (p := 29) m_Mi_init rfl rfl (by omega) (by omega) (by omega) (by omega) (fun hbr => False.elim (by omega)) (fun hbr => ?_)
    refine fi_step (pc' := 30) m_Mi_init rfl rfl ?_
    refine k_get (p := 33) m_Mi_init rfl rfl ((hag c hcA).trans hS) hf ?_
    refine fi_step (pc' := 34) m_Mi_init rfl rfl ?_
    refine n_wh (p := 41) m_Mi_init rfl rfl rfl rfl hfr hlo (Nat.le_of_ble_eq_true rfl) (fun w1 l1 a1 q1 z1 => ?_)
    rw [hlen] at q1
    rw [hlen]
    refine k_aast (p := 42) m_Mi_init rfl rfl q1.1 ((a1 A (by omega)).trans harr) (by omega) (by rw [List.length_map, List.length_range]; omega) (by omega) (fun w2 hG => ?_)
    obtain ⟨l2, a2, n2, z2⟩ := hG
    refine s_iinc (p := 45) m_Mi_init rfl rfl rfl ?_
    refine fi_step (pc' := 20) m_Mi_init rfl rfl ?_
    rw [show (k : Int) + 1 = ((k + 1 : Nat) : Int) by omega]
    refine ih (k + 1) w2 (by omega) (by omega) (fun j hj => ((a2 j (by omega)).trans (a1 j (by omega))).trans (hag j hj)) ?_ (fun j hj => ?_) (by omega)
    · rw [n2, Int.toNat_natCast, rg_set]
      rw [rg_congr (g := fun j => if j < k + 1 then .ref (A + 1 + 2 * j) else .null) (fun j hj => ?_)]
      by_cases e : j = k
      · subst e; rw [if_pos rfl, if_pos (by omega)]
      · rw [if_neg e]
        by_cases e' : j < k
        · rw [if_pos e', if_pos (by omega)]
        · rw [if_neg e', if_neg (by omega)]
    · by_cases e : j = k
      · subst e; exact whA_keep q1 (a2 _ (by omega)) (a2 _ (by omega))
      · exact whA_keep (hwh j (by omega)) ((a2 _ (by omega)).trans (a1 _ (by omega))) ((a2 _ (by omega)).trans (a1 _ (by omega)))
theorem mi_fillM {c d A : Nat} {fs : List Value} {wS : ax_W} (hcA : c < A) (hf : fs[2]? = some (.ref A)) (hS : wS[c]? = some (3, fs)) (hfr : 2 ≤ fr) (hlo : 60 ≤ lo)
    (K : ∀ w', w'.length = A + 1 + 2 * 64 → (∀ j, j < A → w'[j]? = wS[j]?) → w'[A]? = some (37, (List.range 64).map (fun j => .ref (A + 1 + 2 * j))) → (∀ j, j < 64 → whA w' (A + 1 + 2 * j)) → ax_sz w' = ax_sz wS + 35 * 64 → fin xs fr lo 14 87 [some (.ref c), some (.ref d), some (.int (jI ((64 : Nat) : Int)))] [] w' Q) :
    ∀ (n k : Nat) (w : ax_W), k + n = 64 → w.length = A + 1 + 2 * k → (∀ j, j < A → w[j]? = wS[j]?) → w[A]? = some (37, (List.range 64).map (fun j => if j < k then .ref (A + 1 + 2 * j) else .null)) → (∀ j, j < k → whA w (A + 1 + 2 * j)) → ax_sz w = ax_sz wS + 35 * k → fin xs fr lo 14 59 [some (.ref c), some (.ref d), some (.int (jI (k : Int)))] [] w Q := by
  intro n
  induction n with
  | zero =>
    intro k w hk hlen hag harr hwh hsz
    obtain rfl : k = 64 := by omega
    refine fi_step (pc' := 60) m_Mi_init rfl rfl ?_
    refine fi_step (pc' := 61) m_Mi_init rfl rfl ?_
    refine k_get (p := 64) m_Mi_init rfl rfl ((hag c hcA).trans hS) hf ?_
    refine fi_alen m_Mi_init rfl harr (by decide) ?_
    rw [List.length_map, List.length_range, show (64 : Nat).toInt32 = jI 64 from Int32.ofInt_eq_ofNat.symm]
    refine s_ic_ge (p := 68) m_Mi_init rfl rfl (by omega) (by omega) (by omega) (by omega) (fun hbr => ?_) (fun hbr => False.elim (by omega))
    refine K w hlen hag ?_ hwh hsz
    rw [harr, rg_congr (g := fun j => .ref (A + 1 + 2 * j)) (fun j hj => by rw [if_pos hj])]
  | succ n ih =>
    intro k w hk hlen hag harr hwh hsz
    refine fi_step (pc' := 60) m_Mi_init rfl rfl ?_
    refine fi_step (pc' := 61) m_Mi_init rfl rfl ?_
    refine k_get (p := 64) m_Mi_init rfl rfl ((hag c hcA).trans hS) hf ?_
    refine fi_alen m_Mi_init rfl harr (by decide) ?_
    rw [List.length_map, List.length_range, show (64 : Nat).toInt32 = jI 64 from Int32.ofInt_eq_ofNat.symm]
    refine s_ic_ge (p := 68) m_Mi_init rfl rfl (by omega) (by omega) (by omega) (by omega) (fun hbr => False.elim (by omega)) (fun hbr => ?_)
    refine fi_step (pc' := 69) m_Mi_init rfl rfl ?_
    refine k_get (p := 72) m_Mi_init rfl rfl ((hag c hcA).trans hS) hf ?_
    refine fi_step (pc' := 73) m_Mi_init rfl rfl ?_
    refine n_wh (p := 80) m_Mi_init rfl rfl rfl rfl hfr hlo (Nat.le_of_ble_eq_true rfl) (fun w1 l1 a1 q1 z1 => ?_)
    rw [hlen] at q1
    rw [hlen]
    refine k_aast (p := 81) m_Mi_init rfl rfl q1.1 ((a1 A (by omega)).trans harr) (by omega) (by rw [List.length_map, List.length_range]; omega) (by omega) (fun w2 hG => ?_)
    obtain ⟨l2, a2, n2, z2⟩ := hG
    refine s_iinc (p := 84) m_Mi_init rfl rfl rfl ?_
    refine fi_step (pc' := 59) m_Mi_init rfl rfl ?_
    rw [show (k : Int) + 1 = ((k + 1 : Nat) : Int) by omega]
    refine ih (k + 1) w2 (by omega) (by omega) (fun j hj => ((a2 j (by omega)).trans (a1 j (by omega))).trans (hag j hj)) ?_ (fun j hj => ?_) (by omega)
    · rw [n2, Int.toNat_natCast, rg_set]
      rw [rg_congr (g := fun j => if j < k + 1 then .ref (A + 1 + 2 * j) else .null) (fun j hj => ?_)]
      by_cases e : j = k
      · subst e; rw [if_pos rfl, if_pos (by omega)]
      · rw [if_neg e]
        by_cases e' : j < k
        · rw [if_pos e', if_pos (by omega)]
        · rw [if_neg e', if_neg (by omega)]
    · by_cases e : j = k
      · subst e; exact whA_keep q1 (a2 _ (by omega)) (a2 _ (by omega))
      · exact whA_keep (hwh j (by omega)) ((a2 _ (by omega)).trans (a1 _ (by omega))) ((a2 _ (by omega)).trans (a1 _ (by omega)))
/-- a new row at r -/
def rowA (w : ax_W) (r : Nat) : Prop := w[r]? = some (5, [.ref (r + 1)]) ∧ w[r + 1]? = some (37, (List.range 12).map (fun j => .ref (r + 2 + 2 * j))) ∧ ∀ j, j < 12 → whA w (r + 2 + 2 * j)
theorem rowA_keep {w w' : ax_W} {r : Nat} (h : rowA w r) (hk : ∀ j, r ≤ j → j < r + 26 → w'[j]? = w[j]?) : rowA w' r := ⟨(hk _ (by omega) (by omega)).trans h.1, (hk _ (by omega) (by omega)).trans h.2.1, fun j hj => whA_keep (h.2.2 j hj) (hk _ (by omega) (by omega)) (hk _ (by omega) (by omega))⟩
theorem i_ro (hw : w[c]? = some (5, [.null])) (hc : w.length = c + 1) (hfr : 2 ≤ fr) (hlo : 60 ≤ lo) : fin xs fr lo 16 0 (ax_ent [.ref c] 2) [] w (Ret fun u w' => u = none ∧ w'.length = c + 26 ∧ (∀ j, j < c → w'[j]? = w[j]?) ∧ rowA w' c ∧ ax_sz w' = ax_sz w + 432) := by
  refine fi_step (pc' := 1) m_Ro_init rfl rfl ?_
  refine k_obj m_Ro_init rfl (by omega) (by omega) (by decide) ?_
  refine fi_step (pc' := 5) m_Ro_init rfl rfl ?_
  refine s_bipush (p := 7) m_Ro_init rfl rfl rfl ?_
  refine k_anew (p := 10) m_Ro_init rfl rfl (by omega) (by omega) (fun w1 hE => ?_)
  obtain ⟨l1, a1, n1, z1⟩ := hE
  refine k_putf (p := 13) m_Ro_init rfl rfl rfl rfl rfl ((a1 c (by omega)).trans hw) (Nat.le_of_ble_eq_true rfl) (fun w2 hG => ?_)
  obtain ⟨l2, a2, n2, z2⟩ := hG
  rw [hc] at n1 n2
  have z1' : ax_sz w1 = ax_sz w + 12 := z1
  refine fi_step (pc' := 14) m_Ro_init rfl rfl ?_
  refine fi_step (pc' := 15) m_Ro_init rfl rfl ?_
  refine ro_fill (c := c) (d := 0) (A := c + 1) (fs := [.ref (c + 1)]) (wS := w2) (by omega) rfl n2 hfr hlo (fun w3 l3 a3 n3 q3 z3 => ?_) 12 0 w2 (by omega) (by omega) (fun _ _ => rfl) ?_ (fun j hj => by omega) (by omega)
  · refine p_ret m_Ro_init rfl rfl ?_
    refine ⟨rfl, by omega, fun j hj => ((a3 j (by omega)).trans (a2 j (by omega))).trans (a1 j (by omega)), ⟨(a3 c (by omega)).trans n2, ?_, fun j hj => q3 j hj⟩, by omega⟩
    rw [n3]
  · rw [a2 _ (by omega), n1, rg_nul]; rfl
theorem n_ro {i0 i2 b0 c0 d0 d1 d2 b2 : Nat} (hM : ax_prog[z]? = some M) (h0 : M.1[pc]? = some (some (.new i0, 3, 5, b0, c0))) (h1 : M.1[pc + 3]? = some (some (.dup, 1, d0, d1, d2))) (h2 : M.1[pc + 4]? = some (some (.invokespecial i2, 3, 16, 601, b2))) (hp : pc + 7 = p) (hfr : 3 ≤ fr) (hlo : 90 ≤ lo) (hwt : (st.map ax_wt).sum ≤ 7) (kk : ∀ w', w'.length = w.length + 26 → (∀ j, j < w.length → w'[j]? = w[j]?) → rowA w' w.length → ax_sz w' = ax_sz w + 433 → fin xs fr lo z p ls (.ref w.length :: st) w' Q) : fin xs fr lo z pc ls st w Q := by
  subst hp
  refine k_new (p := pc + 3) hM h0 rfl rfl (fun w1 hE => ?_)
  obtain ⟨l1, a1, n1, z1⟩ := hE
  have z1' : ax_sz w1 = ax_sz w + 1 := z1
  refine fi_step (pc' := pc + 4) hM h1 rfl ?_
  refine g_1 (p := pc + 7) hM h2 inv_p (by decide) m_Ro_init rfl rfl (by omega) (by omega) (by rw [List.map_cons, List.sum_cons]; show 1 + _ ≤ 8; omega) (Nat.le_of_ble_eq_true rfl) (by simp [ax_rcv, n1]) (i_ro (c := w.length) n1 l1 (by omega) (by omega)) (fun v w2 hP => ?_)
  obtain ⟨rfl, l2, a2, q2, z2⟩ := hP
  exact kk w2 (by omega) (fun j hj => (a2 j hj).trans (a1 j hj)) q2 (by omega)
/-- the minors -/
theorem i_mi {d : Nat} (hw : w[c]? = some (3, [.null, .null, .null, .int 0, .int 0])) (hc : w.length = c + 1) (hfr : 4 ≤ fr) (hlo : 220 ≤ lo) : fin xs fr lo 14 0 (ax_ent [.ref c, .ref d] 3) [] w (Ret fun u w' => u = none ∧ w'.length = c + 203 ∧ (∀ j, j < c → w'[j]? = w[j]?) ∧ w'[c]? = some (3, [.ref d, .ref (c + 1), .ref (c + 74), .int (jI 0), .int (jI 0)]) ∧ w'[c + 1]? = some (37, (List.range 36).map (fun j => .ref (c + 2 + 2 * j))) ∧ w'[c + 74]? = some (37, (List.range 64).map (fun j => .ref (c + 75 + 2 * j))) ∧ (∀ j, j < 36 → whA w' (c + 2 + 2 * j)) ∧ (∀ j, 1 ≤ j → j < 64 → whA w' (c + 75 + 2 * j)) ∧ oneA w' (c + 75) ∧ ax_sz w' = ax_sz w + 3600) := by
  refine fi_step (pc' := 1) m_Mi_init rfl rfl ?_
  refine k_obj m_Mi_init rfl (by omega) (by omega) (by decide) ?_
  refine fi_step (pc' := 5) m_Mi_init rfl rfl ?_
  refine fi_step (pc' := 6) m_Mi_init rfl rfl ?_
  refine k_putf (p := 9) m_Mi_init rfl rfl rfl rfl rfl hw (Nat.le_of_ble_eq_true rfl) (fun w0 hG => ?_)
  obtain ⟨l0, a0, n0, z0⟩ := hG
  refine fi_step (pc' := 10) m_Mi_init rfl rfl ?_
  refine s_bipush (p := 12) m_Mi_init rfl rfl rfl ?_
  refine k_anew (p := 15) m_Mi_init rfl rfl (by omega) (by omega) (fun w1 hE => ?_)
  obtain ⟨l1, a1, n1, z1⟩ := hE
  refine k_putf (p := 18) m_Mi_init rfl rfl rfl rfl rfl ((a1 c (by omega)).trans n0) (Nat.le_of_ble_eq_true rfl) (fun w2 hG => ?_)
  obtain ⟨l2, a2, n2, z2⟩ := hG
  have e0 : w0.length = c + 1 := by omega
  rw [e0] at n1 n2
  have z1' : ax_sz w1 = ax_sz w0 + 36 := z1
  refine fi_step (pc' := 19) m_Mi_init rfl rfl ?_
  refine fi_step (pc' := 20) m_Mi_init rfl rfl ?_
  refine mi_fillN (c := c) (d := d) (A := c + 1) (wS := w2) (by omega) rfl n2 (by omega) (by omega) (fun w3 l3 a3 n3 q3 z3 => ?_) 36 0 w2 (by omega) (by omega) (fun _ _ => rfl) ?_ (fun j hj => by omega) (by omega)
  · refine fi_step (pc' := 49) m_Mi_init rfl rfl ?_
    refine s_bipush (p := 51) m_Mi_init rfl rfl rfl ?_
    refine k_anew (p := 54) m_Mi_init rfl rfl (by omega) (by omega) (fun w4 hE => ?_)
    obtain ⟨l4, a4, n4, z4⟩ := hE
    refine k_putf (p := 57) m_Mi_init rfl rfl rfl rfl rfl ((a4 c (by omega)).trans ((a3 c (by omega)).trans n2)) (Nat.le_of_ble_eq_true rfl) (fun w5 hG => ?_)
    obtain ⟨l5, a5, n5, z5⟩ := hG
    have e3 : w3.length = c + 74 := by omega
    rw [e3] at n4 n5
    have z4' : ax_sz w4 = ax_sz w3 + 64 := z4
    refine fi_step (pc' := 58) m_Mi_init rfl rfl ?_
    refine fi_step (pc' := 59) m_Mi_init rfl rfl ?_
    refine mi_fillM (c := c) (d := d) (A := c + 74) (wS := w5) (by omega) rfl n5 (by omega) (by omega) (fun w6 l6 a6 n6 q6 z6 => ?_) 64 0 w5 (by omega) (by omega) (fun _ _ => rfl) ?_ (fun j hj => by omega) (by omega)
    · have ag : ∀ j, j ≠ c → j < c + 74 → w6[j]? = w3[j]? := fun j h1 h2 => ((a6 j h2).trans (a5 j h1)).trans (a4 j (by omega))
      have n6c : w6[c]? = some (3, [.ref d, .ref (c + 1), .ref (c + 74), .int (jI 0), .int (jI 0)]) := (a6 c (by omega)).trans n5
      have q60 := q6 0 (by omega)
      rw [show c + 74 + 1 + 2 * 0 = c + 75 by omega] at q60
      refine fi_step (pc' := 88) m_Mi_init rfl rfl ?_
      refine k_get (p := 91) m_Mi_init rfl rfl n6c rfl ?_
      refine fi_step (pc' := 92) m_Mi_init rfl rfl ?_
      refine fi_aald m_Mi_init rfl n6 (by decide) (by decide) (v := .ref (c + 75)) rfl ?_
      refine s_lconst (p := 94) (v := 1) m_Mi_init rfl rfl rfl ?_
      refine g_2 (p := 97) m_Mi_init rfl inv_v (by decide) m_Wh_becomeJ rfl rfl (by omega) (by omega) (Nat.le_of_ble_eq_true rfl) (Nat.le_of_ble_eq_true rfl) (by simp [ax_rcv, q60.1]) (i_one (c := c + 75) q60 (by omega) (by omega)) (fun v w hP => ?_)
      obtain ⟨rfl, l7, a7, o7, z7⟩ := hP
      refine p_ret m_Mi_init rfl rfl ?_
      refine ⟨rfl, by omega, fun j hj => ?_, (a7 _ (by omega) (by omega)).trans n6c, ?_, ?_, fun j hj => ?_, fun j j1 j2 => ?_, o7, by omega⟩
      · rw [a7 j (by omega) (by omega), ag j (by omega) (by omega), a3 j (by omega), a2 j (by omega), a1 j (by omega), a0 j (by omega)]
      · rw [a7 _ (by omega) (by omega), ag _ (by omega) (by omega), n3]
      · rw [a7 _ (by omega) (by omega), n6]
      · have := q3 j hj
        rw [show c + 1 + 1 + 2 * j = c + 2 + 2 * j by omega] at this
        exact whA_keep this ((a7 _ (by omega) (by omega)).trans (ag _ (by omega) (by omega))) ((a7 _ (by omega) (by omega)).trans (ag _ (by omega) (by omega)))
      · have := q6 j j2
        rw [show c + 74 + 1 + 2 * j = c + 75 + 2 * j by omega] at this
        exact whA_keep this (a7 _ (by omega) (by omega)) (a7 _ (by omega) (by omega))
    · rw [a5 _ (by omega), n4, rg_nul]; rfl
  · rw [a2 _ (by omega), n1, rg_nul]; rfl
theorem st_fill {c d A : Nat} {fs : List Value} {wS : ax_W} (hcA : c < A) (hf : fs[2]? = some (.ref A)) (hS : wS[c]? = some (6, fs)) (hfr : 3 ≤ fr) (hlo : 90 ≤ lo)
    (K : ∀ w', w'.length = A + 1 + 26 * 7 → (∀ j, j < A → w'[j]? = wS[j]?) → w'[A]? = some (35, (List.range 7).map (fun j => .ref (A + 1 + 26 * j))) → (∀ j, j < 7 → rowA w' (A + 1 + 26 * j)) → ax_sz w' = ax_sz wS + 433 * 7 → fin xs fr lo 15 59 [some (.ref c), some (.ref d), some (.int (jI ((7 : Nat) : Int)))] [] w' Q) :
    ∀ (n k : Nat) (w : ax_W), k + n = 7 → w.length = A + 1 + 26 * k → (∀ j, j < A → w[j]? = wS[j]?) → w[A]? = some (35, (List.range 7).map (fun j => if j < k then .ref (A + 1 + 26 * j) else .null)) → (∀ j, j < k → rowA w (A + 1 + 26 * j)) → ax_sz w = ax_sz wS + 433 * k → fin xs fr lo 15 31 [some (.ref c), some (.ref d), some (.int (jI (k : Int)))] [] w Q := by
  intro n
  induction n with
  | zero =>
    intro k w hk hlen hag harr hwh hsz
    obtain rfl : k = 7 := by omega
    refine fi_step (pc' := 32) m_St_init rfl rfl ?_
    refine fi_step (pc' := 33) m_St_init rfl rfl ?_
    refine k_get (p := 36) m_St_init rfl rfl ((hag c hcA).trans hS) hf ?_
    refine fi_alen m_St_init rfl harr (by decide) ?_
    rw [List.length_map, List.length_range, show (7 : Nat).toInt32 = jI 7 from Int32.ofInt_eq_ofNat.symm]
    refine s_ic_ge (p := 40) m_St_init rfl rfl (by omega) (by omega) (by omega) (by omega) (fun hbr => ?_) (fun hbr => False.elim (by omega))
    refine K w hlen hag ?_ hwh hsz
    rw [harr, rg_congr (g := fun j => .ref (A + 1 + 26 * j)) (fun j hj => by rw [if_pos hj])]
  | succ n ih =>
    intro k w hk hlen hag harr hwh hsz
    refine fi_step (pc' := 32) m_St_init rfl rfl ?_
    refine fi_step (pc' := 33) m_St_init rfl rfl ?_
    refine k_get (p := 36) m_St_init rfl rfl ((hag c hcA).trans hS) hf ?_
    refine fi_alen m_St_init rfl harr (by decide) ?_
    rw [List.length_map, List.length_range, show (7 : Nat).toInt32 = jI 7 from Int32.ofInt_eq_ofNat.symm]
    refine s_ic_ge (p := 40) m_St_init rfl rfl (by omega) (by omega) (by omega) (by omega) (fun hbr => False.elim (by omega)) (fun hbr => ?_)
    refine fi_step (pc' := 41) m_St_init rfl rfl ?_
    refine k_get (p := 44) m_St_init rfl rfl ((hag c hcA).trans hS) hf ?_
    refine fi_step (pc' := 45) m_St_init rfl rfl ?_
    refine n_ro (p := 52) m_St_init rfl rfl rfl rfl hfr hlo (Nat.le_of_ble_eq_true rfl) (fun w1 l1 a1 q1 z1 => ?_)
    rw [hlen] at q1
    rw [hlen]
    refine k_aast (p := 53) m_St_init rfl rfl q1.1 ((a1 A (by omega)).trans harr) (by omega) (by rw [List.length_map, List.length_range]; omega) (by omega) (fun w2 hG => ?_)
    obtain ⟨l2, a2, n2, z2⟩ := hG
    refine s_iinc (p := 56) m_St_init rfl rfl rfl ?_
    refine fi_step (pc' := 31) m_St_init rfl rfl ?_
    rw [show (k : Int) + 1 = ((k + 1 : Nat) : Int) by omega]
    refine ih (k + 1) w2 (by omega) (by omega) (fun j hj => ((a2 j (by omega)).trans (a1 j (by omega))).trans (hag j hj)) ?_ (fun j hj => ?_) (by omega)
    · rw [n2, Int.toNat_natCast, rg_set]
      rw [rg_congr (g := fun j => if j < k + 1 then .ref (A + 1 + 26 * j) else .null) (fun j hj => ?_)]
      by_cases e : j = k
      · subst e; rw [if_pos rfl, if_pos (by omega)]
      · rw [if_neg e]
        by_cases e' : j < k
        · rw [if_pos e', if_pos (by omega)]
        · rw [if_neg e', if_neg (by omega)]
    · by_cases e : j = k
      · subst e; exact rowA_keep q1 (fun i h1 h2 => a2 i (by omega))
      · exact rowA_keep (hwh j (by omega)) (fun i h1 h2 => (a2 i (by omega)).trans (a1 i (by omega)))
/-- the stairs -/
theorem i_st {d : Nat} (hw : w[c]? = some (6, [.null, .null, .null, .null, .int 0, .int 0])) (hc : w.length = c + 1) (hfr : 4 ≤ fr) (hlo : 220 ≤ lo) : fin xs fr lo 15 0 (ax_ent [.ref c, .ref d] 3) [] w (Ret fun u w' => u = none ∧ w'.length = c + 187 ∧ (∀ j, j < c → w'[j]? = w[j]?) ∧ w'[c]? = some (6, [.ref d, .ref (c + 1), .ref (c + 3), .ref (c + 186), .int (jI 0), .int (jI 0)]) ∧ whA w' (c + 1) ∧ w'[c + 3]? = some (35, (List.range 7).map (fun j => .ref (c + 4 + 26 * j))) ∧ (∀ j, j < 7 → rowA w' (c + 4 + 26 * j)) ∧ w'[c + 186]? = some (20, aI 7 (fun _ => 0)) ∧ ax_sz w' = ax_sz w + 3080) := by
  refine fi_step (pc' := 1) m_St_init rfl rfl ?_
  refine k_obj m_St_init rfl (by omega) (by omega) (by decide) ?_
  refine fi_step (pc' := 5) m_St_init rfl rfl ?_
  refine fi_step (pc' := 6) m_St_init rfl rfl ?_
  refine k_putf (p := 9) m_St_init rfl rfl rfl rfl rfl hw (Nat.le_of_ble_eq_true rfl) (fun w0 hG => ?_)
  obtain ⟨l0, a0, n0, z0⟩ := hG
  refine fi_step (pc' := 10) m_St_init rfl rfl ?_
  refine n_whf (p := 20) m_St_init rfl rfl rfl rfl rfl rfl rfl n0 (Nat.le_of_ble_eq_true rfl) (by omega) (by omega) (by decide) (fun w1 l1 a1 n1 q1 z1 => ?_)
  have e0 : w0.length = c + 1 := by omega
  rw [e0] at n1 q1
  refine fi_step (pc' := 21) m_St_init rfl rfl ?_
  refine s_bipush (p := 23) m_St_init rfl rfl rfl ?_
  refine k_anew (p := 26) m_St_init rfl rfl (by omega) (by omega) (fun w2 hE => ?_)
  obtain ⟨l2, a2, n2, z2⟩ := hE
  refine k_putf (p := 29) m_St_init rfl rfl rfl rfl rfl ((a2 c (by omega)).trans n1) (Nat.le_of_ble_eq_true rfl) (fun w3 hG => ?_)
  obtain ⟨l3, a3, n3, z3⟩ := hG
  have e1 : w1.length = c + 3 := by omega
  rw [e1] at n2 n3
  have z2' : ax_sz w2 = ax_sz w1 + 7 := z2
  have q3 : whA w3 (c + 1) := whA_keep q1 ((a3 _ (by omega)).trans (a2 _ (by omega))) ((a3 _ (by omega)).trans (a2 _ (by omega)))
  refine fi_step (pc' := 30) m_St_init rfl rfl ?_
  refine fi_step (pc' := 31) m_St_init rfl rfl ?_
  refine st_fill (c := c) (d := d) (A := c + 3) (wS := w3) (by omega) rfl n3 (by omega) (by omega) (fun w4 l4 a4 n4 q4 z4 => ?_) 7 0 w3 (by omega) (by omega) (fun _ _ => rfl) ?_ (fun j hj => by omega) (by omega)
  · refine fi_step (pc' := 60) m_St_init rfl rfl ?_
    refine s_bipush (p := 62) m_St_init rfl rfl rfl ?_
    refine k_newa (p := 64) m_St_init rfl rfl rfl (by omega) (by omega) (fun w5 hE => ?_)
    obtain ⟨l5, a5, n5, z5⟩ := hE
    refine k_putf (p := 67) m_St_init rfl rfl rfl rfl rfl ((a5 c (by omega)).trans ((a4 c (by omega)).trans n3)) (Nat.le_of_ble_eq_true rfl) (fun w6 hG => ?_)
    obtain ⟨l6, a6, n6, z6⟩ := hG
    have e4 : w4.length = c + 186 := by omega
    rw [e4] at n5 n6
    have z5' : ax_sz w5 = ax_sz w4 + 7 := z5
    have ag : ∀ j, j ≠ c → j < c + 186 → w6[j]? = w4[j]? := fun j h1 h2 => (a6 j h1).trans (a5 j (by omega))
    refine p_ret m_St_init rfl rfl ?_
    refine ⟨rfl, by omega, fun j hj => ?_, n6, ?_, ?_, fun j hj => ?_, ?_, by omega⟩
    · rw [ag j (by omega) (by omega), a4 j (by omega), a3 j (by omega), a2 j (by omega), a1 j (by omega) (by omega), a0 j (by omega)]
    · exact whA_keep q3 ((ag _ (by omega) (by omega)).trans (a4 _ (by omega))) ((ag _ (by omega) (by omega)).trans (a4 _ (by omega)))
    · rw [ag _ (by omega) (by omega), n4]
    · have := q4 j hj
      rw [show c + 3 + 1 + 26 * j = c + 4 + 26 * j by omega] at this
      exact rowA_keep this (fun i h1 h2 => ag i (by omega) (by omega))
    · rw [a6 _ (by omega), n5]
      show some (20, List.replicate 7 (Value.int 0)) = _
      rw [rep_aI]
  · rw [a3 _ (by omega), n2, rg_nul]; rfl
end CT2
