/-! THE CLASS'S NUMBERS: become, comparison, times and over a digit -/
theorem Wv_congr {f g : Int → Int} {k : Nat} {b v : Int} (h : Wv f k b v) (e : ∀ i : Nat, i < k → g i = f i) : Wv g k b v := by
  obtain ⟨_, hk, hd, hl, hs⟩ := h
  obtain rfl := Int.ofNat.inj hk
  have ed : dw g k = dw f k := dw_congr e
  exact ⟨k, rfl, fun i hi => by rw [e i hi]; exact hd i hi, fun j hj => by rw [e j (by omega)]; exact hl j hj, by rw [ed]; exact hs⟩
section WH7
variable {xs : List Int32} {fr lo : Nat} {w0 w : ax_W} {Q : Outcome → ax_W → Prop} {c d cap : Nat} {f : Int → Int} {n b : Int}
theorem h_becomeW {va : Int} {a e cp k : Nat} {g : Int → Int} {q : Int} (hw : TW w0 w c d cap f n b) (hc : cap < 20000) (ho : OW w0 c d a e cp g k q) (hva : Wv g k q va) (hk : k ≤ cp) (hcp : cp < 20000) (hfr : 1 ≤ fr) (hlo : 100 ≤ lo) :
    fin xs fr lo 64 0 (ax_ent [.ref c, .ref a] 2) [] w (Ret fun u w' => u = none ∧ ∃ w0' d' cap' f', TW w0' w' c d' cap' f' k q ∧ XT w0 w0' c d d' cap cap' ∧ Wv f' k q va ∧ k ≤ cap' ∧ (cap' = cap ∨ cap' ≤ k + 32)) := by
  have hqq := Wv_b hva
  have tail : ∀ (w0' w : ax_W) (d' cap' : Nat) (f1 : Int → Int), TW w0' w c d' cap' f1 n b → XT w0 w0' c d d' cap cap' → k ≤ cap' → cap' < 50000 → (cap' = cap ∨ cap' ≤ k + 32) → fin xs fr lo 64 25 [some (.ref c), some (.ref a)] [] w (Ret fun u w' => u = none ∧ ∃ w0' d' cap' f', TW w0' w' c d' cap' f' k q ∧ XT w0 w0' c d d' cap cap' ∧ Wv f' k q va ∧ k ≤ cap' ∧ (cap' = cap ∨ cap' ≤ k + 32)) := by
    intro w0' w d' cap' f1 hw hX h1 h2 h3
    have ho1 := XT_OW hX ho
    refine fi_step (pc' := 26) m_Wh_becomeW rfl rfl ?_
    first | refine t_get (p := 29) m_Wh_becomeW rfl rfl (by assumption) rfl ?_ | refine o_get (p := 29) m_Wh_becomeW rfl rfl (by assumption) (by assumption) rfl ?_
    refine fi_step (pc' := 30) m_Wh_becomeW rfl rfl ?_
    refine fi_step (pc' := 31) m_Wh_becomeW rfl rfl ?_
    first | refine t_get (p := 34) m_Wh_becomeW rfl rfl (by assumption) rfl ?_ | refine o_get (p := 34) m_Wh_becomeW rfl rfl (by assumption) (by assumption) rfl ?_
    refine fi_step (pc' := 35) m_Wh_becomeW rfl rfl ?_
    refine fi_step (pc' := 36) m_Wh_becomeW rfl rfl ?_
    first | refine t_get (p := 39) m_Wh_becomeW rfl rfl (by assumption) rfl ?_ | refine o_get (p := 39) m_Wh_becomeW rfl rfl (by assumption) (by assumption) rfl ?_
    refine t_cpy (p := 42) (k := k) m_Wh_becomeW rfl inv_s rfl rfl hfr hlo (Nat.le_of_ble_eq_true rfl) (OW_e hw ho1) hw.2.2.2.2 hk h1 (by omega) ?_
    have hw := TW_setd hw (fun i => if i < k then g i else f1 i)
    generalize w.set d' (20, aI cap' (fun i => if i < (k : Int) then g i else f1 i)) = w at hw ⊢
    refine fi_step (pc' := 43) m_Wh_becomeW rfl rfl ?_
    refine fi_step (pc' := 44) m_Wh_becomeW rfl rfl ?_
    first | refine t_get (p := 47) m_Wh_becomeW rfl rfl (by assumption) rfl ?_ | refine o_get (p := 47) m_Wh_becomeW rfl rfl (by assumption) (by assumption) rfl ?_
    refine t_put1 (p := 50) m_Wh_becomeW rfl rfl (by assumption) (fun w hw => ?_)
    refine fi_step (pc' := 51) m_Wh_becomeW rfl rfl ?_
    refine fi_step (pc' := 52) m_Wh_becomeW rfl rfl ?_
    first | refine t_get (p := 55) m_Wh_becomeW rfl rfl (by assumption) rfl ?_ | refine o_get (p := 55) m_Wh_becomeW rfl rfl (by assumption) (by assumption) rfl ?_
    refine t_put2 (p := 58) m_Wh_becomeW rfl rfl (by assumption) (by first | exact Or.inl rfl | exact Or.inr rfl | assumption | omega) (fun w hw => ?_)
    refine p_ret m_Wh_becomeW rfl rfl ?_
    exact ⟨rfl, w0', d', cap', _, hw, hX, Wv_congr hva (fun i hi => if_pos (by omega)), h1, h3⟩
  refine fi_step (pc' := 1) m_Wh_becomeW rfl rfl ?_
  first | refine t_get (p := 4) m_Wh_becomeW rfl rfl (by assumption) rfl ?_ | refine o_get (p := 4) m_Wh_becomeW rfl rfl (by assumption) (by assumption) rfl ?_
  refine fi_step (pc' := 5) m_Wh_becomeW rfl rfl ?_
  first | refine t_get (p := 8) m_Wh_becomeW rfl rfl (by assumption) rfl ?_ | refine o_get (p := 8) m_Wh_becomeW rfl rfl (by assumption) (by assumption) rfl ?_
  refine t_len (p := 9) m_Wh_becomeW rfl rfl (by assumption) ?_
  refine s_ic_le (p := 12) m_Wh_becomeW rfl rfl (by omega) (by omega) (by omega) (by omega) (fun h => ?_) (fun h => ?_)
  · exact tail w0 w d cap f hw (XT_refl _ _ _ _) (by omega) (by omega) (Or.inl rfl)
  · have hne := TW_ne hw
    have hw0 := hw
    obtain ⟨a1, a2, a3, a4, a5⟩ := hw
    have lc : c < w.length := (List.getElem?_eq_some_iff.mp a4).1
    have hw := hw0
    refine fi_step (pc' := 13) m_Wh_becomeW rfl rfl ?_
    refine fi_step (pc' := 14) m_Wh_becomeW rfl rfl ?_
    first | refine t_get (p := 17) m_Wh_becomeW rfl rfl (by assumption) rfl ?_ | refine o_get (p := 17) m_Wh_becomeW rfl rfl (by assumption) (by assumption) rfl ?_
    refine s_bipush (p := 19) m_Wh_becomeW rfl rfl rfl ?_
    refine s_iadd (p := 20) m_Wh_becomeW rfl rfl ?_
    rw [show (k : Int) + 32 = ((k + 32 : Nat) : Int) by omega]
    refine t_newa (p := 22) m_Wh_becomeW rfl rfl (by omega) ?_
    have e4 : (w ++ [(20, aI (k + 32) (fun _ => 0))])[c]? = some (7, [.ref d, .int (jI n), .int (jI b)]) := by rw [List.getElem?_append_left lc]; exact a4
    refine fi_put m_Wh_becomeW rfl (ks := [2, 0, 1]) (fk := 2) rfl rfl rfl e4 (by simp) ?_
    refine tail (w ++ [(20, aI (k + 32) (fun _ => 0))]) _ w.length (k + 32) (fun _ => 0) ⟨by simp, sz_set e4 rfl, fun j hc hd => List.getElem?_set_ne (fun e => hc e.symm), ?_, ?_⟩ ⟨by rw [List.length_append]; omega, fun j hj hc hd => ?_, Or.inr (by omega), by omega, by rw [List.length_append, List.length_singleton]; omega, ?_⟩ (by omega) (by omega) (Or.inr (Nat.le_refl _))
    · rw [List.getElem?_set_self (by rw [List.length_append]; omega)]; rfl
    · rw [List.getElem?_set_ne (by omega)]; simp
    · rw [List.getElem?_append_left (by omega)]; exact a3 j hc hd
    · rw [sz_app _ _ _ (by decide), aI_len, a2]
      have h5 : cap * cap ≤ (k + 32) * (k + 32 - 33) := by
        have : cap * cap ≤ (k + 32) * cap := Nat.mul_le_mul_right _ (by omega)
        have h6 : (k + 32) * cap ≤ (k + 32) * (k + 32 - 33) := Nat.mul_le_mul_left _ (by omega)
        omega
      have h7 : (k + 32) * (k + 32 - 33) + (k + 32) * 33 = (k + 32) * (k + 32) := by rw [← Nat.mul_add]; congr 1; omega
      omega
theorem h_becomeSelf {k : Nat} (hw : TW w0 w c d cap f k b) (hk : k ≤ cap) (hb : b = 0 ∨ b = 1) (hc : cap < 20000) (hfr : 1 ≤ fr) (hlo : 100 ≤ lo) :
    fin xs fr lo 64 0 (ax_ent [.ref c, .ref c] 2) [] w (Ret fun u w' => u = none ∧ TW w0 w' c d cap f k b) := by
  refine fi_step (pc' := 1) m_Wh_becomeW rfl rfl ?_
  first | refine t_get (p := 4) m_Wh_becomeW rfl rfl (by assumption) rfl ?_ | refine o_get (p := 4) m_Wh_becomeW rfl rfl (by assumption) (by assumption) rfl ?_
  refine fi_step (pc' := 5) m_Wh_becomeW rfl rfl ?_
  first | refine t_get (p := 8) m_Wh_becomeW rfl rfl (by assumption) rfl ?_ | refine o_get (p := 8) m_Wh_becomeW rfl rfl (by assumption) (by assumption) rfl ?_
  refine t_len (p := 9) m_Wh_becomeW rfl rfl (by assumption) ?_
  refine s_ic_le (p := 12) m_Wh_becomeW rfl rfl (by omega) (by omega) (by omega) (by omega) (fun hbr => ?_) (fun hbr => False.elim (by omega))
  refine fi_step (pc' := 26) m_Wh_becomeW rfl rfl ?_
  first | refine t_get (p := 29) m_Wh_becomeW rfl rfl (by assumption) rfl ?_ | refine o_get (p := 29) m_Wh_becomeW rfl rfl (by assumption) (by assumption) rfl ?_
  refine fi_step (pc' := 30) m_Wh_becomeW rfl rfl ?_
  refine fi_step (pc' := 31) m_Wh_becomeW rfl rfl ?_
  first | refine t_get (p := 34) m_Wh_becomeW rfl rfl (by assumption) rfl ?_ | refine o_get (p := 34) m_Wh_becomeW rfl rfl (by assumption) (by assumption) rfl ?_
  refine fi_step (pc' := 35) m_Wh_becomeW rfl rfl ?_
  refine fi_step (pc' := 36) m_Wh_becomeW rfl rfl ?_
  first | refine t_get (p := 39) m_Wh_becomeW rfl rfl (by assumption) rfl ?_ | refine o_get (p := 39) m_Wh_becomeW rfl rfl (by assumption) (by assumption) rfl ?_
  refine t_cpy (p := 42) (k := k) m_Wh_becomeW rfl inv_s rfl rfl hfr hlo (Nat.le_of_ble_eq_true rfl) hw.2.2.2.2 hw.2.2.2.2 hk hk (by omega) ?_
  have hw := TW_setd hw (fun i => if i < k then f i else f i)
  have hff : (fun i : Int => if i < (k : Int) then f i else f i) = f := by funext i; split <;> rfl
  rw [hff] at hw ⊢
  generalize w.set d (20, aI cap f) = w at hw ⊢
  refine fi_step (pc' := 43) m_Wh_becomeW rfl rfl ?_
  refine fi_step (pc' := 44) m_Wh_becomeW rfl rfl ?_
  first | refine t_get (p := 47) m_Wh_becomeW rfl rfl (by assumption) rfl ?_ | refine o_get (p := 47) m_Wh_becomeW rfl rfl (by assumption) (by assumption) rfl ?_
  refine t_put1 (p := 50) m_Wh_becomeW rfl rfl (by assumption) (fun w hw => ?_)
  refine fi_step (pc' := 51) m_Wh_becomeW rfl rfl ?_
  refine fi_step (pc' := 52) m_Wh_becomeW rfl rfl ?_
  first | refine t_get (p := 55) m_Wh_becomeW rfl rfl (by assumption) rfl ?_ | refine o_get (p := 55) m_Wh_becomeW rfl rfl (by assumption) (by assumption) rfl ?_
  refine t_put2 (p := 58) m_Wh_becomeW rfl rfl (by assumption) (by first | exact Or.inl rfl | exact Or.inr rfl | assumption | omega) (fun w hw => ?_)
  refine p_ret m_Wh_becomeW rfl rfl ?_
  exact ⟨rfl, hw⟩
theorem h_abs {x : Int} (x0 : -9223372036854775807 ≤ x) (x1 : x < 9223372036854775808) : fin xs fr lo 12 0 (ax_ent [.long (jL x)] 2) [] w (Same (.long (jL (x.natAbs : Int))) w) := by
  by_cases h : 0 ≤ x
  · rw [show (x.natAbs : Int) = x by omega]
    refine fi_step (pc' := 1) m_Mt_abs rfl rfl ?_
    refine s_lconst (p := 2) (v := 0) m_Mt_abs rfl rfl rfl ?_
    refine s_lc_ge (q := 3) (p := 6) m_Mt_abs rfl rfl rfl rfl (by omega) (by omega) (by omega) (by omega) (fun hbr => ?_) (fun hbr => False.elim (by omega))
    refine fi_step (pc' := 12) m_Mt_abs rfl rfl ?_
    exact s_retl m_Mt_abs rfl rfl (by omega)
  · rw [show (x.natAbs : Int) = -x by omega]
    refine fi_step (pc' := 1) m_Mt_abs rfl rfl ?_
    refine s_lconst (p := 2) (v := 0) m_Mt_abs rfl rfl rfl ?_
    refine s_lc_ge (q := 3) (p := 6) m_Mt_abs rfl rfl rfl rfl (by omega) (by omega) (by omega) (by omega) (fun hbr => False.elim (by omega)) (fun hbr => ?_)
    refine fi_step (pc' := 7) m_Mt_abs rfl rfl ?_
    refine s_lneg (p := 8) m_Mt_abs rfl rfl ?_
    refine fi_step (pc' := 12) m_Mt_abs rfl rfl ?_
    exact s_retl m_Mt_abs rfl rfl (by omega)
theorem td9_abs (x : Int) : ((x.tdiv 1000000000).natAbs : Int) = (x.natAbs : Int) / 1000000000 ∧ ((x.tmod 1000000000).natAbs : Int) = (x.natAbs : Int) % 1000000000 := by
  constructor
  · rw [Int.natAbs_tdiv]; rfl
  · rw [Int.natAbs_tmod]; rfl
theorem becJ_loop {x : Int} (x0 : -4611686018427387904 ≤ x) (x1 : x ≤ 4611686018427387904) (hc : cap < 100000) (h3 : 3 ≤ cap) (hfr : 1 ≤ fr) (hlo : 40 ≤ lo)
    (K : ∀ (w : ax_W) (f : Int → Int) (r : Int), TW w0 w c d cap f 0 0 → dgs f 3 → dw f 3 = (x.natAbs : Int) → fin xs fr lo 5 48 [some (.ref c), some (.long (jL x)), none, some (.long (jL r)), none, some (.int (jI 3))] [] w Q) :
    ∀ (j i : Nat) (r : Int) (w : ax_W) (f : Int → Int), i + j = 3 → (r.natAbs : Int) ≤ 4611686018427387904 → (r.natAbs : Int) < 1000000000 ^ (3 - i) → TW w0 w c d cap f 0 0 → dgs f i → dw f i + (r.natAbs : Int) * 1000000000 ^ i = (x.natAbs : Int) →
    fin xs fr lo 5 14 [some (.ref c), some (.long (jL x)), none, some (.long (jL r)), none, some (.int (jI i))] [] w Q := by
  intro j
  induction j with
  | zero =>
    intro i r w f hi hr hr' hw hd hE
    obtain rfl : i = 3 := by omega
    rw [show 3 - 3 = 0 from rfl, Int.pow_zero] at hr'
    rw [show (r.natAbs : Int) = 0 by omega] at hE
    refine fi_step (pc' := 16) m_Wh_becomeJ rfl rfl ?_
    refine fi_step (pc' := 17) m_Wh_becomeJ rfl rfl ?_
    refine s_ic_ge (p := 20) m_Wh_becomeJ rfl rfl (by omega) (by omega) (by omega) (by omega) (fun hbr => ?_) (fun hbr => False.elim (by omega))
    exact K w f r hw hd (by omega)
  | succ j ih =>
    intro i r w f hi hr hr' hw hd hE
    have ht := td9_abs r
    have htb : ((r.tmod 1000000000).natAbs : Int) < 1000000000 := by rw [ht.2]; omega
    refine fi_step (pc' := 16) m_Wh_becomeJ rfl rfl ?_
    refine fi_step (pc' := 17) m_Wh_becomeJ rfl rfl ?_
    refine s_ic_ge (p := 20) m_Wh_becomeJ rfl rfl (by omega) (by omega) (by omega) (by omega) (fun hbr => False.elim (by omega)) (fun hbr => ?_)
    refine fi_step (pc' := 21) m_Wh_becomeJ rfl rfl ?_
    first | refine t_get (p := 24) m_Wh_becomeJ rfl rfl (by assumption) rfl ?_ | refine o_get (p := 24) m_Wh_becomeJ rfl rfl (by assumption) (by assumption) rfl ?_
    refine fi_step (pc' := 26) m_Wh_becomeJ rfl rfl ?_
    refine fi_step (pc' := 27) m_Wh_becomeJ rfl rfl ?_
    refine s_ldc2 (p := 30) 1000000000 m_Wh_becomeJ rfl rfl rfl ?_
    refine s_ltrem (p := 31) m_Wh_becomeJ rfl rfl (by omega) (by omega) (by omega) (by omega) ?_
    refine c_1 (p := 34) m_Wh_becomeJ rfl inv_s (by decide) m_Mt_abs rfl rfl (by omega) (by omega) (Nat.le_of_ble_eq_true rfl) (Nat.le_of_ble_eq_true rfl) rfl (h_abs (by omega) (by omega)) ?_
    refine s_l2i (p := 35) m_Wh_becomeJ rfl rfl ?_
    refine t_st (p := 36) m_Wh_becomeJ rfl rfl (by assumption) (by omega) (by omega) (by omega) (fun w hw => ?_)
    refine fi_step (pc' := 37) m_Wh_becomeJ rfl rfl ?_
    refine s_ldc2 (p := 40) 1000000000 m_Wh_becomeJ rfl rfl rfl ?_
    refine s_ltdiv (p := 41) m_Wh_becomeJ rfl rfl (by omega) (by omega) (by omega) (by omega) ?_
    refine fi_step (pc' := 42) m_Wh_becomeJ rfl rfl ?_
    refine s_iinc (p := 45) m_Wh_becomeJ rfl rfl rfl ?_
    refine fi_step (pc' := 14) m_Wh_becomeJ rfl rfl ?_
    rw [show (i : Int) + 1 = ((i + 1 : Nat) : Int) by omega]
    refine ih (i + 1) _ w _ (by omega) (by rw [ht.1]; omega) ?_ hw (fun k hk => ?_) ?_
    · rw [ht.1]
      have : 3 - i = (3 - (i + 1)) + 1 := by omega
      rw [this, Int.pow_succ] at hr'
      exact Int.ediv_lt_of_lt_mul (by decide) hr'
    · by_cases e : k = i
      · subst e; rw [up1_same]; omega
      · rw [up1_ne _ (by omega)]; exact hd k (by omega)
    · rw [dw_succ, up1_same, dw_congr (g := f) (fun k hk => up1_ne _ (by omega) _), ht.1, ht.2, ← hE, Int.pow_succ]
      have := Int.emod_add_mul_ediv (r.natAbs : Int) 1000000000
      generalize (r.natAbs : Int) % 1000000000 = A at *
      generalize (r.natAbs : Int) / 1000000000 = B at *
      rw [← this]; grind
/-- three digits are there: no room is made -/
theorem h_widen3 {m : Nat} (hw : TW w0 w c d cap f m b) (hm : m ≤ cap) (h3 : 3 ≤ cap) (hc : cap < 20000) (hfr : 2 ≤ fr) (hlo : 160 ≤ lo) :
    fin xs fr lo 7 0 (ax_ent [.ref c, .int (jI 3)] 2) [] w (Ret fun u w' => u = none ∧ ∃ f', TW w0 w' c d cap f' m b) := by
  refine fi_step (pc' := 1) m_Wh_widen rfl rfl ?_
  refine fi_step (pc' := 2) m_Wh_widen rfl rfl ?_
  first | refine t_get (p := 5) m_Wh_widen rfl rfl (by assumption) rfl ?_ | refine o_get (p := 5) m_Wh_widen rfl rfl (by assumption) (by assumption) rfl ?_
  refine t_len (p := 6) m_Wh_widen rfl rfl (by assumption) ?_
  refine s_ic_le (p := 9) m_Wh_widen rfl rfl (by omega) (by omega) (by omega) (by omega) (fun hbr => ?_) (fun hbr => False.elim (by omega))
  refine fi_step (pc' := 25) m_Wh_widen rfl rfl ?_
  refine fi_step (pc' := 26) m_Wh_widen rfl rfl ?_
  first | refine t_get (p := 29) m_Wh_widen rfl rfl (by assumption) rfl ?_ | refine o_get (p := 29) m_Wh_widen rfl rfl (by assumption) (by assumption) rfl ?_
  refine s_ic_le (p := 32) m_Wh_widen rfl rfl (by omega) (by omega) (by omega) (by omega) (fun h => ?_) (fun h => ?_)
  · refine p_ret m_Wh_widen rfl rfl ?_
    exact ⟨rfl, f, hw⟩
  · refine fi_step (pc' := 33) m_Wh_widen rfl rfl ?_
    first | refine t_get (p := 36) m_Wh_widen rfl rfl (by assumption) rfl ?_ | refine o_get (p := 36) m_Wh_widen rfl rfl (by assumption) (by assumption) rfl ?_
    refine fi_step (pc' := 37) m_Wh_widen rfl rfl ?_
    first | refine t_get (p := 40) m_Wh_widen rfl rfl (by assumption) rfl ?_ | refine o_get (p := 40) m_Wh_widen rfl rfl (by assumption) (by assumption) rfl ?_
    refine fi_step (pc' := 41) m_Wh_widen rfl rfl ?_
    refine fi_step (pc' := 42) m_Wh_widen rfl rfl ?_
    refine g_4 (p := 45) m_Wh_widen rfl inv_s (by decide) m_Ar_fillI rfl rfl (by omega) (by omega) (Nat.le_of_ble_eq_true rfl) (Nat.le_of_ble_eq_true rfl) rfl (h_fill (a := m) (t := 3) hw (by omega) (by omega) (by omega) (by omega) (by omega)) (fun v w hP => ?_)
    obtain ⟨rfl, f2, hw, z2, s2⟩ := hP
    refine p_ret m_Wh_widen rfl rfl ?_
    exact ⟨rfl, f2, hw⟩
theorem h_becomeJ {x : Int} (hw : TW w0 w c d cap f n b) (x0 : -4611686018427387904 ≤ x) (x1 : x ≤ 4611686018427387904) (hc : cap < 20000) (h3 : 3 ≤ cap) (hfr : 3 ≤ fr) (hlo : 190 ≤ lo) :
    fin xs fr lo 5 0 (ax_ent [.ref c, .long (jL x)] 6) [] w (Ret fun u w' => u = none ∧ ∃ f' n' b', TW w0 w' c d cap f' n' b' ∧ Wv f' n' b' x ∧ n' ≤ cap) := by
  refine fi_step (pc' := 1) m_Wh_becomeJ rfl rfl ?_
  refine g_1 (p := 4) m_Wh_becomeJ rfl inv_v (by decide) m_Wh_clear rfl rfl (by omega) (by omega) (Nat.le_of_ble_eq_true rfl) (Nat.le_of_ble_eq_true rfl) (TW_rcv hw _) (h_clear hw) (fun v w hP => ?_)
  obtain ⟨rfl, hw⟩ := hP
  refine fi_step (pc' := 5) m_Wh_becomeJ rfl rfl ?_
  refine fi_step (pc' := 6) m_Wh_becomeJ rfl rfl ?_
  refine g_2 (p := 9) m_Wh_becomeJ rfl inv_v (by decide) m_Wh_widen rfl rfl (by omega) (by omega) (Nat.le_of_ble_eq_true rfl) (Nat.le_of_ble_eq_true rfl) (TW_rcv hw _) (h_widen3 (m := 0) hw (by omega) h3 hc (by omega) (by omega)) (fun v w hP => ?_)
  obtain ⟨rfl, f1, hw⟩ := hP
  refine fi_step (pc' := 10) m_Wh_becomeJ rfl rfl ?_
  refine fi_step (pc' := 11) m_Wh_becomeJ rfl rfl ?_
  refine fi_step (pc' := 12) m_Wh_becomeJ rfl rfl ?_
  refine fi_step (pc' := 14) m_Wh_becomeJ rfl rfl ?_
  have e27 : (1000000000 : Int) ^ 3 = 1000000000000000000000000000 := by decide
  refine becJ_loop x0 x1 (by omega) h3 (by omega) (by omega) ?_ 3 0 x w f1 (by omega) (by omega) (by rw [show 3 - 0 = 3 from rfl, e27]; omega) hw (fun i hi => by omega) (by
    have e0 : dw f1 0 = 0 := rfl
    rw [e0]; simp)
  intro w f2 r hw hd hv
  refine fi_step (pc' := 49) m_Wh_becomeJ rfl rfl ?_
  refine fi_step (pc' := 50) m_Wh_becomeJ rfl rfl ?_
  refine g_2 (p := 53) m_Wh_becomeJ rfl inv_v (by decide) m_Wh_trim rfl rfl (by omega) (by omega) (Nat.le_of_ble_eq_true rfl) (Nat.le_of_ble_eq_true rfl) (TW_rcv hw _) (h_trim (t := 3) (by omega) (Or.inl rfl) hw h3 hd) (fun v w hP => ?_)
  obtain ⟨rfl, n3, b3, hw, g2, _, g3⟩ := hP
  rw [if_neg (by decide), hv] at g3
  have hn3 : 0 ≤ n3 := by obtain ⟨m, e, _⟩ := g3; omega
  have hz := Wv_zero g3
  obtain ⟨m, rfl, hdm, hlm, hsm⟩ := g3
  by_cases hneg : x < 0
  · refine fi_step (pc' := 54) m_Wh_becomeJ rfl rfl ?_
    refine fi_step (pc' := 55) m_Wh_becomeJ rfl rfl ?_
    refine s_lconst (p := 56) (v := 0) m_Wh_becomeJ rfl rfl rfl ?_
    refine s_lc_ge (q := 57) (p := 60) m_Wh_becomeJ rfl rfl rfl rfl (by omega) (by omega) (by omega) (by omega) (fun hbr => False.elim (by omega)) (fun hbr => ?_)
    refine fi_step (pc' := 61) m_Wh_becomeJ rfl rfl ?_
    refine fi_step (pc' := 65) m_Wh_becomeJ rfl rfl ?_
    refine t_put2 (p := 68) m_Wh_becomeJ rfl rfl (by assumption) (by first | exact Or.inl rfl | exact Or.inr rfl | assumption | omega) (fun w hw => ?_)
    refine p_ret m_Wh_becomeJ rfl rfl ?_
    refine ⟨rfl, f2, m, 1, hw, ⟨m, rfl, hdm, hlm, Or.inr ⟨rfl, ?_, ?_⟩⟩, by omega⟩
    · have : ¬ ((m : Int) = 0) := fun e => by have := hz.mpr e; omega
      omega
    · rcases hsm with ⟨_, e⟩ | ⟨_, _, e⟩
      · omega
      · have := dw_nn hdm; omega
  · refine fi_step (pc' := 54) m_Wh_becomeJ rfl rfl ?_
    refine fi_step (pc' := 55) m_Wh_becomeJ rfl rfl ?_
    refine s_lconst (p := 56) (v := 0) m_Wh_becomeJ rfl rfl rfl ?_
    refine s_lc_ge (q := 57) (p := 60) m_Wh_becomeJ rfl rfl rfl rfl (by omega) (by omega) (by omega) (by omega) (fun hbr => ?_) (fun hbr => False.elim (by omega))
    refine fi_step (pc' := 65) m_Wh_becomeJ rfl rfl ?_
    refine t_put2 (p := 68) m_Wh_becomeJ rfl rfl (by assumption) (by first | exact Or.inl rfl | exact Or.inr rfl | assumption | omega) (fun w hw => ?_)
    refine p_ret m_Wh_becomeJ rfl rfl ?_
    refine ⟨rfl, f2, m, 0, hw, ⟨m, rfl, hdm, hlm, Or.inl ⟨rfl, ?_⟩⟩, by omega⟩
    rcases hsm with ⟨_, e⟩ | ⟨_, _, e⟩
    · omega
    · have := dw_nn hdm; omega
theorem times_loop {s k : Nat} {f0 : Int → Int} (s1 : 1 ≤ s) (s2 : s ≤ 1000000000) (hc : cap < 100000) (hk : k < cap) (hd0 : dgs f0 (k + 1))
    (K : ∀ (w : ax_W) (f : Int → Int) (r : Int), TW w0 w c d cap f k b → dgs f (k + 1) → dw f (k + 1) + r * 1000000000 ^ (k + 1) = s * dw f0 (k + 1) → 0 ≤ r → (∀ i : Nat, k < i → f i = f0 i) → fin xs fr lo 68 52 [some (.ref c), some (.long (jL s)), none, some (.long (jL r)), none, some (.int (jI ((k : Int) + 1)))] [] w Q) :
    ∀ (j i : Nat) (r : Int) (w : ax_W) (f : Int → Int), i + j = k + 1 → 0 ≤ r → r < 1000000000 → TW w0 w c d cap f k b → dgs f i → (∀ t : Nat, i ≤ t → f t = f0 t) → dw f i + r * 1000000000 ^ i = s * dw f0 i →
    fin xs fr lo 68 5 [some (.ref c), some (.long (jL s)), none, some (.long (jL r)), none, some (.int (jI i))] [] w Q := by
  intro j
  induction j with
  | zero =>
    intro i r w f hi r0 r1 hw hd hs hE
    obtain rfl : i = k + 1 := by omega
    rw [show ((k + 1 : Nat) : Int) = (k : Int) + 1 by omega]
    refine fi_step (pc' := 7) m_Wh_timesDigit rfl rfl ?_
    refine fi_step (pc' := 8) m_Wh_timesDigit rfl rfl ?_
    first | refine t_get (p := 11) m_Wh_timesDigit rfl rfl (by assumption) rfl ?_ | refine o_get (p := 11) m_Wh_timesDigit rfl rfl (by assumption) (by assumption) rfl ?_
    refine s_ic_gt (p := 14) m_Wh_timesDigit rfl rfl (by omega) (by omega) (by omega) (by omega) (fun hbr => ?_) (fun hbr => False.elim (by omega))
    exact K w f r hw hd hE r0 (fun i h => hs i (by omega))
  | succ j ih =>
    intro i r w f hi r0 r1 hw hd hs hE
    have fi := hs i (by omega)
    have di := hd0 i (by omega)
    rw [← fi] at di
    have hb : 0 ≤ f i * s ∧ f i * s ≤ 999999999 * 1000000000 := ⟨Int.mul_nonneg di.1 (by omega), Int.le_trans (Int.mul_le_mul_of_nonneg_right (show f i ≤ 999999999 by omega) (by omega)) (Int.mul_le_mul_of_nonneg_left (by omega) (by decide))⟩
    refine fi_step (pc' := 7) m_Wh_timesDigit rfl rfl ?_
    refine fi_step (pc' := 8) m_Wh_timesDigit rfl rfl ?_
    first | refine t_get (p := 11) m_Wh_timesDigit rfl rfl (by assumption) rfl ?_ | refine o_get (p := 11) m_Wh_timesDigit rfl rfl (by assumption) (by assumption) rfl ?_
    refine s_ic_gt (p := 14) m_Wh_timesDigit rfl rfl (by omega) (by omega) (by omega) (by omega) (fun hbr => False.elim (by omega)) (fun hbr => ?_)
    refine fi_step (pc' := 15) m_Wh_timesDigit rfl rfl ?_
    refine fi_step (pc' := 16) m_Wh_timesDigit rfl rfl ?_
    first | refine t_get (p := 19) m_Wh_timesDigit rfl rfl (by assumption) rfl ?_ | refine o_get (p := 19) m_Wh_timesDigit rfl rfl (by assumption) (by assumption) rfl ?_
    refine fi_step (pc' := 21) m_Wh_timesDigit rfl rfl ?_
    first | refine t_ld (p := 22) m_Wh_timesDigit rfl rfl (by assumption) (by omega) (by omega) (by omega) ?_ | refine o_ld (p := 22) m_Wh_timesDigit rfl rfl (by assumption) (by assumption) (by omega) (by omega) (by omega) ?_
    refine s_i2l (p := 23) m_Wh_timesDigit rfl rfl (by omega) (by omega) ?_
    refine fi_step (pc' := 24) m_Wh_timesDigit rfl rfl ?_
    refine s_lmul (p := 25) m_Wh_timesDigit rfl rfl ?_
    refine s_ladd (p := 26) m_Wh_timesDigit rfl rfl ?_
    refine fi_step (pc' := 27) m_Wh_timesDigit rfl rfl ?_
    refine fi_step (pc' := 28) m_Wh_timesDigit rfl rfl ?_
    first | refine t_get (p := 31) m_Wh_timesDigit rfl rfl (by assumption) rfl ?_ | refine o_get (p := 31) m_Wh_timesDigit rfl rfl (by assumption) (by assumption) rfl ?_
    refine fi_step (pc' := 33) m_Wh_timesDigit rfl rfl ?_
    refine fi_step (pc' := 34) m_Wh_timesDigit rfl rfl ?_
    refine s_ldc2 (p := 37) 1000000000 m_Wh_timesDigit rfl rfl rfl ?_
    refine s_lrem (p := 38) m_Wh_timesDigit rfl rfl (by omega) (by omega) (by omega) (by omega) ?_
    refine s_l2i (p := 39) m_Wh_timesDigit rfl rfl ?_
    refine t_st (p := 40) m_Wh_timesDigit rfl rfl (by assumption) (by omega) (by omega) (by omega) (fun w hw => ?_)
    refine fi_step (pc' := 41) m_Wh_timesDigit rfl rfl ?_
    refine s_ldc2 (p := 44) 1000000000 m_Wh_timesDigit rfl rfl rfl ?_
    refine s_ldiv (p := 45) m_Wh_timesDigit rfl rfl (by omega) (by omega) (by omega) (by omega) ?_
    refine fi_step (pc' := 46) m_Wh_timesDigit rfl rfl ?_
    refine s_iinc (p := 49) m_Wh_timesDigit rfl rfl rfl ?_
    refine fi_step (pc' := 5) m_Wh_timesDigit rfl rfl ?_
    rw [show (i : Int) + 1 = ((i + 1 : Nat) : Int) by omega]
    refine ih (i + 1) _ w _ (by omega) (by omega) (by omega) hw (fun t ht => ?_) (fun t ht => by rw [up1_ne _ (by omega)]; exact hs t (by omega)) ?_
    · by_cases e : t = i
      · subst e; rw [up1_same]; omega
      · rw [up1_ne _ (by omega)]; exact hd t (by omega)
    · rw [dw_succ, up1_same, dw_congr (g := f) (fun t ht => up1_ne _ (by omega) _), dw_succ, Int.mul_add, ← hE, ← fi, Int.pow_succ]
      have hm := Int.emod_add_mul_ediv (r + f i * s) 1000000000
      generalize (r + f i * s) % 1000000000 = A at *
      generalize (r + f i * s) / 1000000000 = B at *
      have : f i * s = A + 1000000000 * B - r := by omega
      rw [show (s : Int) * (f i * 1000000000 ^ i) = (f i * s) * 1000000000 ^ i by grind, this]; grind
theorem h_timesDigit {s k : Nat} (hw : TW w0 w c d cap f k b) (s1 : 1 ≤ s) (s2 : s ≤ 1000000000) (hc : cap < 100000) (hk : k < cap) (hd : dgs f (k + 1)) (hz : f k = 0) (hb : b = 0) (hfr : 1 ≤ fr) (hlo : 30 ≤ lo) :
    fin xs fr lo 68 0 (ax_ent [.ref c, .long (jL s)] 6) [] w (Ret fun u w' => u = none ∧ ∃ f' n' b', TW w0 w' c d cap f' n' b' ∧ n' ≤ k + 1 ∧ Wv f' n' b' (s * dw f k) ∧ (∀ i : Nat, n' ≤ i → i ≤ k → f' i = 0) ∧ ∀ i : Nat, k < i → f' i = f i) := by
  subst hb
  refine s_lconst (p := 1) (v := 0) m_Wh_timesDigit rfl rfl rfl ?_
  refine fi_step (pc' := 2) m_Wh_timesDigit rfl rfl ?_
  refine fi_step (pc' := 3) m_Wh_timesDigit rfl rfl ?_
  refine fi_step (pc' := 5) m_Wh_timesDigit rfl rfl ?_
  refine times_loop s1 s2 hc hk hd ?_ (k + 1) 0 0 w f (by omega) (by omega) (by omega) hw (fun i hi => by omega) (fun _ _ => rfl) (by
    have e0 : dw f 0 = 0 := rfl
    rw [e0]; simp)
  intro w f2 r hw hd2 hE r0 hs2
  have hzz : dw f (k + 1) = dw f k := by rw [dw_succ, hz]; simp
  rw [hzz] at hE
  have hr : r = 0 := by
    have p : (0 : Int) < 1000000000 ^ (k + 1) := Int.pow_pos (by decide)
    have a := dw_nn hd2
    have l := dw_lt (f := f) (n := k) (fun i hi => hd i (by omega))
    have nn := dw_nn (f := f) (n := k) (fun i hi => hd i (by omega))
    have h1 : (s : Int) * dw f k ≤ 1000000000 * dw f k := Int.mul_le_mul_of_nonneg_right (by omega) nn
    rw [Int.pow_succ] at hE p
    refine Classical.byContradiction (fun hne => ?_)
    have h2 : 1 * (1000000000 ^ k * 1000000000) ≤ r * (1000000000 ^ k * 1000000000) := Int.mul_le_mul_of_nonneg_right (by omega) (by omega)
    omega
  subst hr
  rw [Int.zero_mul, Int.add_zero] at hE
  refine fi_step (pc' := 53) m_Wh_timesDigit rfl rfl ?_
  refine fi_step (pc' := 54) m_Wh_timesDigit rfl rfl ?_
  first | refine t_get (p := 57) m_Wh_timesDigit rfl rfl (by assumption) rfl ?_ | refine o_get (p := 57) m_Wh_timesDigit rfl rfl (by assumption) (by assumption) rfl ?_
  refine fi_step (pc' := 58) m_Wh_timesDigit rfl rfl ?_
  refine s_iadd (p := 59) m_Wh_timesDigit rfl rfl ?_
  rw [show (k : Int) + 1 = ((k + 1 : Nat) : Int) by omega]
  refine g_2 (p := 62) m_Wh_timesDigit rfl inv_v (by decide) m_Wh_trim rfl rfl (by omega) (by omega) (Nat.le_of_ble_eq_true rfl) (Nat.le_of_ble_eq_true rfl) (TW_rcv hw _) (h_trim (t := k + 1) hc (Or.inl rfl) hw (by omega) hd2) (fun v w hP => ?_)
  obtain ⟨rfl, n3, b3, hw, g2, gz, g3⟩ := hP
  rw [if_neg (by decide), hE] at g3
  refine p_ret m_Wh_timesDigit rfl rfl ?_
  exact ⟨rfl, f2, n3, b3, hw, by omega, g3, fun i h0 h1 => gz i h0 (by omega), hs2⟩
end WH7
