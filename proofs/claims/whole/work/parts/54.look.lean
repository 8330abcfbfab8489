/-! THE REFERENCE: what is looked at with a diagonal beside it; sets -/
theorem els_mem {n : Nat} {x : Int} : ∀ {i : Int}, i ∈ els n x → 0 ≤ i ∧ i < n := by
  induction n with
  | zero => intro i h; simp [els] at h
  | succ n ih =>
    intro i h
    unfold els at h
    split at h
    · rcases List.mem_cons.mp h with e | e
      · omega
      · have := ih e; omega
    · have := ih h; omega
section LOOK2
variable {xs : List Int32} {fr lo : Nat} {w0 : ax_W} {Q : Outcome → ax_W → Prop}
theorem beside_loop {m : Int} {S : mo_S} (hfr : 1 ≤ fr) (hlo : 30 ≤ lo) (hM : MI S) (m0 : 0 ≤ m) (m1 : m < 6) (h1 : S 0 1 = S 6 m) (h2 : S 0 2 = S 5 m + S 6 m) :
    ∀ (f : Nat) (i j : Int) (w : ax_W) (s : mo_S), (S 6 m - i) * 13 + (S 5 m + S 6 m - j) ≤ f → 0 ≤ i → i < S 6 m → 0 ≤ j → j ≤ S 5 m + S 6 m → RW w0 w s → (∀ a, a ≠ 7 → s a = S a) → (∀ i' j', 0 ≤ i' → 0 ≤ j' → j' < S 5 m + S 6 m → (i' < i ∨ (i' = i ∧ j' < j)) → s 7 (12 * i' + j') = if j' < S 5 m then S 4 (36 * m + 6 * j' + i') else if j' - S 5 m = i' then 1 else 0) →
    fin xs fr lo 169 39 [some (.ref 425), some (.int (jI m)), some (.int (jI i)), some (.int (jI j))] [] w (Ret fun u w' => u = none ∧ ∃ s', RW w0 w' s' ∧ (∀ a, a ≠ 7 → s' a = S a) ∧ ∀ i j, 0 ≤ i → i < S 6 m → 0 ≤ j → j < S 5 m + S 6 m → s' 7 (12 * i + j) = if j < S 5 m then S 4 (36 * m + 6 * j + i) else if j - S 5 m = i then 1 else 0) := by
  have hR := hM.1 m m0 m1
  have hC := hM.2.1 m m0 m1
  intro f
  induction f with
  | zero => intro i j w s hf i0 i1 j0 j1; omega
  | succ f ih =>
    intro i j w s hf i0 i1 j0 j1 hw ho hok
    have e1 : s 0 1 = S 6 m := by rw [ho 0 (by decide)]; exact h1
    have e2 : s 0 2 = S 5 m + S 6 m := by rw [ho 0 (by decide)]; exact h2
    have e5 : s 5 m = S 5 m := by rw [ho 5 (by decide)]
    have mid : ∀ (v : Int) (w1 : ax_W), RW w0 w1 (up s 7 (12 * i + j) v) → v = (if j < S 5 m then S 4 (36 * m + 6 * j + i) else if j - S 5 m = i then 1 else 0) → j < S 5 m + S 6 m → fin xs fr lo 169 39 [some (.ref 425), some (.int (jI m)), some (.int (jI i)), some (.int (jI (j + 1)))] [] w1 (Ret fun u w' => u = none ∧ ∃ s', RW w0 w' s' ∧ (∀ a, a ≠ 7 → s' a = S a) ∧ ∀ i j, 0 ≤ i → i < S 6 m → 0 ≤ j → j < S 5 m + S 6 m → s' 7 (12 * i + j) = if j < S 5 m then S 4 (36 * m + 6 * j + i) else if j - S 5 m = i then 1 else 0) := by
      intro v w1 hw1 hv hj
      refine ih i (j + 1) w1 _ (by omega) i0 i1 (by omega) (by omega) hw1 (fun a ha => by rw [up_ne _ ha]; exact ho a ha) (fun i' j' p0 p2 p3 hh => ?_)
      rw [up_same]
      by_cases e : i' = i ∧ j' = j
      · rw [e.1, e.2, up1_same, hv]
      · rw [up1_ne _ (by omega)]; exact hok i' j' p0 p2 p3 (by omega)
    refine fi_step (pc' := 40) m_Mo_lookBeside rfl rfl ?_
    refine fi_step (pc' := 41) m_Mo_lookBeside rfl rfl ?_
    refine r_get (p := 44) m_Mo_lookBeside rfl rfl (by assumption) rfl ?_
    refine s_ic_ge (p := 47) m_Mo_lookBeside rfl rfl (by omega) (by omega) (by omega) (by omega) (fun h => ?_) (fun h => ?_)
    · refine s_iinc (p := 104) m_Mo_lookBeside rfl rfl rfl ?_
      refine fi_step (pc' := 29) m_Mo_lookBeside rfl rfl ?_
      refine fi_step (pc' := 30) m_Mo_lookBeside rfl rfl ?_
      refine fi_step (pc' := 31) m_Mo_lookBeside rfl rfl ?_
      refine r_get (p := 34) m_Mo_lookBeside rfl rfl (by assumption) rfl ?_
      refine s_ic_ge (p := 37) m_Mo_lookBeside rfl rfl (by omega) (by omega) (by omega) (by omega) (fun g => ?_) (fun g => ?_)
      · refine p_ret m_Mo_lookBeside rfl rfl ?_
        exact ⟨rfl, s, hw, ho, fun i' j' p0 p1 p2 p3 => hok i' j' p0 p2 p3 (by omega)⟩
      · refine fi_step (pc' := 38) m_Mo_lookBeside rfl rfl ?_
        refine fi_step (pc' := 39) m_Mo_lookBeside rfl rfl ?_
        exact ih (i + 1) 0 w s (by omega) (by omega) (by omega) (by omega) (by omega) hw ho (fun i' j' p0 p2 p3 hh => hok i' j' p0 p2 p3 (by omega))
    · refine fi_step (pc' := 48) m_Mo_lookBeside rfl rfl ?_
      refine r_get (p := 51) m_Mo_lookBeside rfl rfl (by assumption) rfl ?_
      refine s_bipush (p := 53) m_Mo_lookBeside rfl rfl rfl ?_
      refine fi_step (pc' := 54) m_Mo_lookBeside rfl rfl ?_
      refine s_imul (p := 55) m_Mo_lookBeside rfl rfl ?_
      refine fi_step (pc' := 56) m_Mo_lookBeside rfl rfl ?_
      refine s_iadd (p := 57) m_Mo_lookBeside rfl rfl ?_
      refine fi_step (pc' := 58) m_Mo_lookBeside rfl rfl ?_
      refine fi_step (pc' := 59) m_Mo_lookBeside rfl rfl ?_
      refine r_get (p := 62) m_Mo_lookBeside rfl rfl (by assumption) rfl ?_
      refine fi_step (pc' := 63) m_Mo_lookBeside rfl rfl ?_
      refine r_ldI (p := 64) m_Mo_lookBeside rfl rfl (by assumption) (by decide) rfl (by decide) (by omega) (by omega) ?_
      refine s_ic_ge (p := 67) m_Mo_lookBeside rfl rfl (by omega) (by omega) (by omega) (by omega) (fun g => ?_) (fun g => ?_)
      · refine fi_step (pc' := 78) m_Mo_lookBeside rfl rfl ?_
        refine fi_step (pc' := 79) m_Mo_lookBeside rfl rfl ?_
        refine r_get (p := 82) m_Mo_lookBeside rfl rfl (by assumption) rfl ?_
        refine fi_step (pc' := 83) m_Mo_lookBeside rfl rfl ?_
        refine r_ldI (p := 84) m_Mo_lookBeside rfl rfl (by assumption) (by decide) rfl (by decide) (by omega) (by omega) ?_
        refine s_isub (p := 85) m_Mo_lookBeside rfl rfl ?_
        refine fi_step (pc' := 86) m_Mo_lookBeside rfl rfl ?_
        refine s_ic_ne (p := 89) m_Mo_lookBeside rfl rfl (by omega) (by omega) (by omega) (by omega) (fun g2 => ?_) (fun g2 => ?_)
        · refine s_lconst (p := 94) (v := 0) m_Mo_lookBeside rfl rfl rfl ?_
          refine r_stL (p := 95) m_Mo_lookBeside rfl rfl (by assumption) (by decide) (fun _ => rfl) (by decide) (by omega) (by omega) (fun w hw => ?_)
          refine s_iinc (p := 98) m_Mo_lookBeside rfl rfl rfl ?_
          refine fi_step (pc' := 39) m_Mo_lookBeside rfl rfl ?_
          exact mid 0 w hw (by rw [if_neg (by omega), if_neg (by omega)]) (by omega)
        · refine s_lconst (p := 90) (v := 1) m_Mo_lookBeside rfl rfl rfl ?_
          refine fi_step (pc' := 94) m_Mo_lookBeside rfl rfl ?_
          refine r_stL (p := 95) m_Mo_lookBeside rfl rfl (by assumption) (by decide) (fun _ => rfl) (by decide) (by omega) (by omega) (fun w hw => ?_)
          refine s_iinc (p := 98) m_Mo_lookBeside rfl rfl rfl ?_
          refine fi_step (pc' := 39) m_Mo_lookBeside rfl rfl ?_
          exact mid 1 w hw (by rw [if_neg (by omega), if_pos (by omega)]) (by omega)
      · refine fi_step (pc' := 68) m_Mo_lookBeside rfl rfl ?_
        refine fi_step (pc' := 69) m_Mo_lookBeside rfl rfl ?_
        refine fi_step (pc' := 70) m_Mo_lookBeside rfl rfl ?_
        refine fi_step (pc' := 71) m_Mo_lookBeside rfl rfl ?_
        refine c_4 (p := 74) m_Mo_lookBeside rfl inv_v (by decide) m_Mo_number rfl rfl (by omega) (by omega) (Nat.le_of_ble_eq_true rfl) (Nat.le_of_ble_eq_true rfl) (RW_rcv hw _) (c_number hw m0 m1 (by omega) (by omega) (by omega) (by omega)) ?_
        refine fi_step (pc' := 94) m_Mo_lookBeside rfl rfl ?_
        refine r_stL (p := 95) m_Mo_lookBeside rfl rfl (by assumption) (by decide) (fun _ => rfl) (by decide) (by omega) (by omega) (fun w hw => ?_)
        refine s_iinc (p := 98) m_Mo_lookBeside rfl rfl rfl ?_
        refine fi_step (pc' := 39) m_Mo_lookBeside rfl rfl ?_
        exact mid _ w hw (by rw [if_pos (by omega), ho 4 (by decide)]) (by omega)
theorem c_lookBeside {m : Int} {w : ax_W} {s : mo_S} (hfr : 1 ≤ fr) (hlo : 30 ≤ lo) (hw : RW w0 w s) (hM : MI s) (m0 : 0 ≤ m) (m1 : m < 6) :
    fin xs fr lo 169 0 (ax_ent [.ref 425, .int (jI m)] 4) [] w (Ret fun u w' => u = none ∧ ∃ s', RW w0 w' s' ∧ kL s s' ∧ s' 0 1 = s 6 m ∧ s' 0 2 = s 5 m + s 6 m ∧ ∀ i j, 0 ≤ i → i < s 6 m → 0 ≤ j → j < s 5 m + s 6 m → s' 7 (12 * i + j) = if j < s 5 m then s 4 (36 * m + 6 * j + i) else if j - s 5 m = i then 1 else 0) := by
  have hR := hM.1 m m0 m1
  have hC := hM.2.1 m m0 m1
  have e5 : up s 0 1 (s 6 m) 5 m = s 5 m := by rw [up_ne _ (by decide)]
  have e6 : up s 0 1 (s 6 m) 6 m = s 6 m := by rw [up_ne _ (by decide)]
  refine fi_step (pc' := 1) m_Mo_lookBeside rfl rfl ?_
  refine fi_step (pc' := 2) m_Mo_lookBeside rfl rfl ?_
  refine r_get (p := 5) m_Mo_lookBeside rfl rfl (by assumption) rfl ?_
  refine fi_step (pc' := 6) m_Mo_lookBeside rfl rfl ?_
  refine r_ldI (p := 7) m_Mo_lookBeside rfl rfl (by assumption) (by decide) rfl (by decide) (by omega) (by omega) ?_
  refine r_put (p := 10) 1 m_Mo_lookBeside rfl rfl (by assumption) (r_put1 _ _) rfl (fun w hw => ?_)
  refine fi_step (pc' := 11) m_Mo_lookBeside rfl rfl ?_
  refine fi_step (pc' := 12) m_Mo_lookBeside rfl rfl ?_
  refine r_get (p := 15) m_Mo_lookBeside rfl rfl (by assumption) rfl ?_
  refine fi_step (pc' := 16) m_Mo_lookBeside rfl rfl ?_
  refine r_ldI (p := 17) m_Mo_lookBeside rfl rfl (by assumption) (by decide) rfl (by decide) (by omega) (by omega) ?_
  refine fi_step (pc' := 18) m_Mo_lookBeside rfl rfl ?_
  refine r_get (p := 21) m_Mo_lookBeside rfl rfl (by assumption) rfl ?_
  refine fi_step (pc' := 22) m_Mo_lookBeside rfl rfl ?_
  refine r_ldI (p := 23) m_Mo_lookBeside rfl rfl (by assumption) (by decide) rfl (by decide) (by omega) (by omega) ?_
  refine s_iadd (p := 24) m_Mo_lookBeside rfl rfl ?_
  refine r_put (p := 27) 2 m_Mo_lookBeside rfl rfl (by assumption) (r_put2 _ _) rfl (fun w hw => ?_)
  refine fi_step (pc' := 28) m_Mo_lookBeside rfl rfl ?_
  refine fi_step (pc' := 29) m_Mo_lookBeside rfl rfl ?_
  rw [e5, e6] at hw
  generalize hS : up (up s 0 1 (s 6 m)) 0 2 (s 5 m + s 6 m) = S at hw
  have E1 : S 0 1 = s 6 m := by rw [← hS, up_same, up1_ne _ (by decide), up_same, up1_same]
  have E2 : S 0 2 = s 5 m + s 6 m := by rw [← hS, up_same, up1_same]
  have EO : ∀ a, a ≠ 0 → S a = s a := fun a ha => by rw [← hS, up_ne _ ha, up_ne _ ha]
  have E0 : ∀ i, i ≠ 1 → i ≠ 2 → S 0 i = s 0 i := fun i h1 h2 => by rw [← hS, up_same, up1_ne _ h2, up_same, up1_ne _ h1]
  have F5 : S 5 m = s 5 m := by rw [EO 5 (by decide)]
  have F6 : S 6 m = s 6 m := by rw [EO 6 (by decide)]
  refine fi_step (pc' := 30) m_Mo_lookBeside rfl rfl ?_
  refine fi_step (pc' := 31) m_Mo_lookBeside rfl rfl ?_
  refine r_get (p := 34) m_Mo_lookBeside rfl rfl (by assumption) rfl ?_
  refine s_ic_ge (p := 37) m_Mo_lookBeside rfl rfl (by omega) (by omega) (by omega) (by omega) (fun hbr => False.elim (by omega)) (fun hbr => ?_)
  refine fi_step (pc' := 38) m_Mo_lookBeside rfl rfl ?_
  refine fi_step (pc' := 39) m_Mo_lookBeside rfl rfl ?_
  refine fi_mono (beside_loop (S := S) hfr hlo (MI_congr hM ⟨EO 4 (by decide), EO 5 (by decide), EO 6 (by decide)⟩) m0 m1 (by omega) (by omega) 200 0 0 w S (by omega) (by omega) (by omega) (by omega) (by omega) hw (fun _ _ => rfl) (fun i' j' _ _ _ hh => by omega)) ?_
  rintro o w' ⟨v, rfl, hv, s', g1, g2, g3⟩
  refine ⟨v, rfl, hv, s', g1, ⟨fun a h0 h7 => by rw [g2 a h7, EO a h0], fun i h1 h2 => by rw [g2 0 (by decide), E0 i h1 h2]⟩, by rw [g2 0 (by decide), E1], by rw [g2 0 (by decide), E2], fun i j p0 p1 p2 p3 => ?_⟩
  rw [g3 i j p0 (by omega) p2 (by omega), F5, EO 4 (by decide)]
theorem sizeOf_loop {x : Int} {w : ax_W} (x0 : 0 ≤ x) (x1 : x < 2147483648) : ∀ (c k : Nat), k + c = 12 →
    fin xs fr lo 148 4 [some (.int (jI x)), some (.int (jI ((els k x).length : Nat))), some (.int (jI k))] [] w (Same (.int (jI ((els 12 x).length : Nat))) w) := by
  intro c
  induction c with
  | zero =>
    intro k hk
    have : k = 12 := by omega
    subst this
    refine fi_step (pc' := 5) m_Mo_sizeOf rfl rfl ?_
    refine s_bipush (p := 7) m_Mo_sizeOf rfl rfl rfl ?_
    refine s_ic_ge (p := 10) m_Mo_sizeOf rfl rfl (by omega) (by omega) (by omega) (by omega) (fun hbr => ?_) (fun hbr => False.elim (by omega))
    refine fi_step (pc' := 25) m_Mo_sizeOf rfl rfl ?_
    exact s_reti m_Mo_sizeOf rfl rfl (by rfl)
  | succ c ih =>
    intro k hk
    have e : ((els k x).length : Int) + x / 2 ^ ((k : Int).toNat) % 2 = ((els (k + 1) x).length : Int) := by
      rw [Int.toNat_natCast]
      have h2 : x / 2 ^ k % 2 = 0 ∨ x / 2 ^ k % 2 = 1 := by omega
      rcases h2 with h | h
      · rw [h]; simp [els, h]
      · rw [h]; simp [els, h]
    refine fi_step (pc' := 5) m_Mo_sizeOf rfl rfl ?_
    refine s_bipush (p := 7) m_Mo_sizeOf rfl rfl rfl ?_
    refine s_ic_ge (p := 10) m_Mo_sizeOf rfl rfl (by omega) (by omega) (by omega) (by omega) (fun hbr => False.elim (by omega)) (fun hbr => ?_)
    refine fi_step (pc' := 11) m_Mo_sizeOf rfl rfl ?_
    refine fi_step (pc' := 12) m_Mo_sizeOf rfl rfl ?_
    refine fi_step (pc' := 13) m_Mo_sizeOf rfl rfl ?_
    refine b_ishr (p := 14) m_Mo_sizeOf rfl rfl (by omega) (by omega) (by omega) (by omega) ?_
    refine fi_step (pc' := 15) m_Mo_sizeOf rfl rfl ?_
    refine b_iand (p := 16) m_Mo_sizeOf rfl rfl  ?_
    refine s_iadd (p := 17) m_Mo_sizeOf rfl rfl ?_
    rw [e]
    refine fi_step (pc' := 18) m_Mo_sizeOf rfl rfl ?_
    refine s_iinc (p := 21) m_Mo_sizeOf rfl rfl rfl ?_
    refine fi_step (pc' := 4) m_Mo_sizeOf rfl rfl ?_
    exact ih (k + 1) (by omega)
theorem c_sizeOf {x : Int} {w : ax_W} (x0 : 0 ≤ x) (x1 : x < 2147483648) :
    fin xs fr lo 148 0 (ax_ent [.int (jI x)] 3) [] w (Same (.int (jI ((els 12 x).length : Nat))) w) := by
  refine fi_step (pc' := 1) m_Mo_sizeOf rfl rfl ?_
  refine fi_step (pc' := 2) m_Mo_sizeOf rfl rfl ?_
  refine fi_step (pc' := 3) m_Mo_sizeOf rfl rfl ?_
  refine fi_step (pc' := 4) m_Mo_sizeOf rfl rfl ?_
  exact sizeOf_loop x0 x1 12 0 (by omega)
theorem pick_loop {x : Int} {c : Nat} {S : mo_S} (x0 : 0 ≤ x) (x1 : x < 2147483648) (hc : S 0 2 = c) (hcm : c ≤ 12) (hm : (els c x).length ≤ 6) : ∀ (d k : Nat) (w : ax_W) (s : mo_S), k + d = c → RW w0 w s → (∀ a, a ≠ 8 → s a = S a) → plist (s 8) (els k x).length = els k x →
    fin xs fr lo 149 4 [some (.ref 425), some (.int (jI x)), some (.int (jI ((els k x).length : Nat))), some (.int (jI k))] [] w (Ret fun u w' => u = some (.int (jI ((els c x).length : Nat))) ∧ ∃ s', RW w0 w' s' ∧ (∀ a, a ≠ 8 → s' a = S a) ∧ plist (s' 8) (els c x).length = els c x) := by
  intro d
  induction d with
  | zero =>
    intro k w s hk hw ho hp
    have : k = c := by omega
    subst this
    have e2 : s 0 2 = k := by rw [ho 0 (by decide)]; exact hc
    refine fi_step (pc' := 5) m_Mo_pick rfl rfl ?_
    refine fi_step (pc' := 6) m_Mo_pick rfl rfl ?_
    refine r_get (p := 9) m_Mo_pick rfl rfl (by assumption) rfl ?_
    refine s_ic_ge (p := 12) m_Mo_pick rfl rfl (by omega) (by omega) (by omega) (by omega) (fun hbr => ?_) (fun hbr => False.elim (by omega))
    refine fi_step (pc' := 38) m_Mo_pick rfl rfl ?_
    refine p_reti m_Mo_pick rfl rfl ?_
    exact ⟨rfl, s, hw, ho, hp⟩
  | succ d ih =>
    intro k w s hk hw ho hp
    have e2 : s 0 2 = c := by rw [ho 0 (by decide)]; exact hc
    have hmono : ∀ (n m : Nat), n ≤ m → (els n x).length ≤ (els m x).length := by
      intro n m h
      induction m with
      | zero => have : n = 0 := by omega
                subst this; exact Nat.le_refl _
      | succ m ihm =>
        rcases Nat.lt_or_ge n (m + 1) with h' | h'
        · have := ihm (by omega)
          rw [els]; split
          · rw [List.length_cons]; omega
          · omega
        · have : n = m + 1 := by omega
          subst this; exact Nat.le_refl _
    have hl := hmono (k + 1) c (by omega)
    have hkt : (2 : Int) ^ ((k : Int).toNat) = 2 ^ k := by rw [Int.toNat_natCast]
    refine fi_step (pc' := 5) m_Mo_pick rfl rfl ?_
    refine fi_step (pc' := 6) m_Mo_pick rfl rfl ?_
    refine r_get (p := 9) m_Mo_pick rfl rfl (by assumption) rfl ?_
    refine s_ic_ge (p := 12) m_Mo_pick rfl rfl (by omega) (by omega) (by omega) (by omega) (fun hbr => False.elim (by omega)) (fun hbr => ?_)
    refine fi_step (pc' := 13) m_Mo_pick rfl rfl ?_
    refine fi_step (pc' := 14) m_Mo_pick rfl rfl ?_
    refine b_ishr (p := 15) m_Mo_pick rfl rfl (by omega) (by omega) (by omega) (by omega) ?_
    refine fi_step (pc' := 16) m_Mo_pick rfl rfl ?_
    refine b_iand (p := 17) m_Mo_pick rfl rfl  ?_
    refine fi_step (pc' := 18) m_Mo_pick rfl rfl ?_
    refine s_ic_ne (p := 21) m_Mo_pick rfl rfl (by omega) (by omega) (by omega) (by omega) (fun h => ?_) (fun h => ?_)
    · have e : els (k + 1) x = els k x := by rw [els, if_neg (by rw [hkt] at h; exact h)]
      refine s_iinc (p := 34) m_Mo_pick rfl rfl rfl ?_
      refine fi_step (pc' := 4) m_Mo_pick rfl rfl ?_
      have := ih (k + 1) w s (by omega) hw ho (by rw [e]; exact hp)
      rw [e] at this
      exact this
    · have e : els (k + 1) x = (k : Int) :: els k x := by rw [els, if_pos (by rw [hkt] at h; exact h)]
      rw [e, List.length_cons] at hl
      refine fi_step (pc' := 22) m_Mo_pick rfl rfl ?_
      refine r_get (p := 25) m_Mo_pick rfl rfl (by assumption) rfl ?_
      refine fi_step (pc' := 26) m_Mo_pick rfl rfl ?_
      refine fi_step (pc' := 27) m_Mo_pick rfl rfl ?_
      refine r_stI (p := 28) m_Mo_pick rfl rfl (by assumption) (by decide) (fun _ => rfl) (by decide) (by omega) (by omega) (fun w hw => ?_)
      refine s_iinc (p := 31) m_Mo_pick rfl rfl rfl ?_
      refine s_iinc (p := 34) m_Mo_pick rfl rfl rfl ?_
      refine fi_step (pc' := 4) m_Mo_pick rfl rfl ?_
      have := ih (k + 1) w _ (by omega) hw (fun a ha => by rw [up_ne _ ha]; exact ho a ha) (by
        rw [e, List.length_cons, plist, up_same, up1_same, plist_congr (g := s 8) (fun i hi => up1_ne _ (by omega) _), hp])
      rw [e, List.length_cons] at this
      exact this
theorem c_pick {x : Int} {c : Nat} {w : ax_W} {s : mo_S} (hw : RW w0 w s) (x0 : 0 ≤ x) (x1 : x < 2147483648) (hc : s 0 2 = c) (hcm : c ≤ 12) (hm : (els c x).length ≤ 6) :
    fin xs fr lo 149 0 (ax_ent [.ref 425, .int (jI x)] 4) [] w (Ret fun u w' => u = some (.int (jI ((els c x).length : Nat))) ∧ ∃ s', RW w0 w' s' ∧ (∀ a, a ≠ 8 → s' a = s a) ∧ plist (s' 8) (els c x).length = els c x) := by
  refine fi_step (pc' := 1) m_Mo_pick rfl rfl ?_
  refine fi_step (pc' := 2) m_Mo_pick rfl rfl ?_
  refine fi_step (pc' := 3) m_Mo_pick rfl rfl ?_
  refine fi_step (pc' := 4) m_Mo_pick rfl rfl ?_
  exact pick_loop x0 x1 hc hcm hm c 0 w s (by omega) hw (fun _ _ => rfl) rfl
end LOOK2
