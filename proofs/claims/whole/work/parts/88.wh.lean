/-! THE CLASS'S NUMBERS: add, addProduct -/
/-- a Whole, with its value and room for its digits -/
theorem dw_ext {f g : Int → Int} {n t : Nat} (hnt : n ≤ t) (h1 : ∀ i : Nat, i < n → g i = f i) (h2 : ∀ i : Nat, n ≤ i → i < t → g i = 0) : dw g t = dw f n := by
  rw [dw_zeros hnt h2, dw_congr h1]
section WH6
variable {xs : List Int32} {fr lo : Nat} {w0 w : ax_W} {Q : Outcome → ax_W → Prop} {c d cap : Nat} {f : Int → Int} {n b : Int}
/-- what a number has become -/
def gotW (w0 w' : ax_W) (c d cap : Nat) (v : Int) (K : Nat) : Prop := ∃ w0' d' cap' f' n' b', TW w0' w' c d' cap' f' n' b' ∧ XT w0 w0' c d d' cap cap' ∧ Wv f' n' b' v ∧ n' ≤ cap' ∧ (cap' = cap ∨ cap' ≤ K)
theorem h_add {v va sg : Int} {a e cp k1 k2 : Nat} {g : Int → Int} {q : Int} (hw : TW w0 w c d cap f k1 b) (hv : Wv f k1 b v) (hn : k1 ≤ cap) (hc : cap < 20000) (ho : OW w0 c d a e cp g k2 q) (hva : Wv g k2 q va) (hm : k2 ≤ cp) (hcp : cp < 20000) (hsg : sg = 1 ∨ sg = -1) (hfr : 3 ≤ fr) (hlo : 200 ≤ lo) {K : Nat} (hK1 : k1 + 34 ≤ K) (hK2 : k2 + 34 ≤ K) :
    fin xs fr lo 71 0 (ax_ent [.ref c, .ref a, .int (jI sg)] 4) [] w (Ret fun u w' => u = none ∧ gotW w0 w' c d cap (v + sg * va) K) := by
  have hbb := Wv_b hv
  have hqq := Wv_b hva
  obtain ⟨_, hk, hd, hl, hs⟩ := hv
  obtain rfl := Int.ofNat.inj hk
  obtain ⟨_, hk, hgd, hgl, hgs⟩ := hva
  obtain rfl := Int.ofNat.inj hk
  obtain ⟨mx, hmx1, hmx2, hmx3, hmx4⟩ : ∃ mx : Nat, (if (k2 : Int) ≤ k1 then (k1 : Int) else k2) = mx ∧ k1 ≤ mx ∧ k2 ≤ mx ∧ (mx = k1 ∨ mx = k2) := by
    by_cases h : (k2 : Int) ≤ k1
    · exact ⟨k1, by rw [if_pos h], by omega, by omega, Or.inl rfl⟩
    · exact ⟨k2, by rw [if_neg h], by omega, by omega, Or.inr rfl⟩
  refine fi_step (pc' := 1) m_Wh_add rfl rfl ?_
  first | refine t_get (p := 4) m_Wh_add rfl rfl (by assumption) rfl ?_ | refine o_get (p := 4) m_Wh_add rfl rfl (by assumption) (by assumption) rfl ?_
  refine fi_step (pc' := 5) m_Wh_add rfl rfl ?_
  first | refine t_get (p := 8) m_Wh_add rfl rfl (by assumption) rfl ?_ | refine o_get (p := 8) m_Wh_add rfl rfl (by assumption) (by assumption) rfl ?_
  refine c_2 (p := 11) m_Wh_add rfl inv_s (by decide) m_Mt_max rfl rfl (by omega) (by omega) (Nat.le_of_ble_eq_true rfl) (Nat.le_of_ble_eq_true rfl) rfl (h_max (by omega) (by omega) (by omega) (by omega)) ?_
  rw [hmx1]
  refine fi_step (pc' := 12) m_Wh_add rfl rfl ?_
  refine s_iadd (p := 13) m_Wh_add rfl rfl ?_
  refine fi_step (pc' := 14) m_Wh_add rfl rfl ?_
  refine fi_step (pc' := 15) m_Wh_add rfl rfl ?_
  refine fi_step (pc' := 16) m_Wh_add rfl rfl ?_
  rw [show (mx : Int) + 2 = ((mx + 2 : Nat) : Int) by omega]
  refine g_2 (p := 19) m_Wh_add rfl inv_v (by decide) m_Wh_widen rfl rfl (by omega) (by omega) (Nat.le_of_ble_eq_true rfl) (Nat.le_of_ble_eq_true rfl) (TW_rcv hw _) (h_widen (t := mx + 2) (m := k1) hw (by omega) (by omega) (by omega) (by omega) (by omega)) (fun v w hP => ?_)
  obtain ⟨rfl, w1, d1, cap1, f1, hw, hX, hc1, hc2, hf1, hf2⟩ := hP
  have ho1 := XT_OW hX ho
  have hcap1 : cap1 < 100000 := by omega
  have hdv : dw f1 (mx + 2) = dw f k1 := dw_ext (by omega) hf1 hf2
  have hd1 : ∀ i : Nat, i + 1 < mx + 2 → 0 ≤ f1 i ∧ f1 i < 1000000000 := by
    intro i hi
    by_cases h : i < k1
    · rw [hf1 i h]; exact hd i h
    · rw [hf2 i (by omega) (by omega)]; omega
  have htop : f1 ((mx + 2 - 1 : Nat) : Int) = 0 := hf2 _ (by omega) (by omega)
  have fnn := dw_nn hd
  have flt := dw_lt hd
  have gnn := dw_nn hgd
  have glt := dw_lt hgd
  have pn : (1000000000 : Int) ^ k1 ≤ 1000000000 ^ mx := pow_mono (by decide) hmx2
  have pm : (1000000000 : Int) ^ k2 ≤ 1000000000 ^ mx := pow_mono (by decide) hmx3
  have pp : (1000000000 : Int) ^ (mx + 1) = 1000000000 ^ mx * 1000000000 := Int.pow_succ ..
  have p0 : (0 : Int) < 1000000000 ^ mx := Int.pow_pos (by decide)
  have goF : ∀ F : Int, (F = sg ∧ b = q) ∨ (F = -sg ∧ ¬ b = q) → fin xs fr lo 71 40 [some (.ref c), some (.ref a), some (.int (jI sg)), some (.int (jI ((mx + 2 : Nat) : Int)))] [.long (jL F), .ref a, .ref c] w (Ret fun u w' => u = none ∧ gotW w0 w' c d cap (v + sg * va) K) := by
    intro F hF
    have hF1 : F = 1 ∨ F = -1 := by omega
    refine fi_step (pc' := 41) m_Wh_add rfl rfl ?_
    refine fi_step (pc' := 42) m_Wh_add rfl rfl ?_
    refine g_5 (p := 45) m_Wh_add rfl inv_v (by decide) m_Wh_addLine rfl rfl (by omega) (by omega) (Nat.le_of_ble_eq_true rfl) (Nat.le_of_ble_eq_true rfl) (TW_rcv hw _) (h_addLine (F := F) (sh := 0) (top := mx + 2) hw hcap1 (by omega) hc1 ho1 hm hgd (by omega) (by omega) (by omega) hd1 (by rw [htop]; decide) (by rw [htop]; decide)) (fun v w hP => ?_)
    obtain ⟨rfl, f2, hw, hd2, _, hv2⟩ := hP
    rw [hdv, Int.pow_zero, Int.mul_one] at hv2
    have hN : -(1 * 1000000000 ^ (mx + 1)) ≤ dw f2 (mx + 1 + 1) ∧ dw f2 (mx + 1 + 1) < 1 * 1000000000 ^ (mx + 1) := by
      rw [hv2, pp]
      rcases hF1 with rfl | rfl <;> omega
    have htd := top_digit (f := f2) (t := mx + 1) (k := 1) (fun i hi => hd2 i (by omega)) (by decide) hN.1 hN.2
    refine fi_step (pc' := 46) m_Wh_add rfl rfl ?_
    refine fi_step (pc' := 47) m_Wh_add rfl rfl ?_
    refine g_2 (p := 50) m_Wh_add rfl inv_v (by decide) m_Wh_straighten rfl rfl (by omega) (by omega) (Nat.le_of_ble_eq_true rfl) (Nat.le_of_ble_eq_true rfl) (TW_rcv hw _) (h_straighten (top := mx + 2) hw hbb hcap1 hc1 (by omega) hd2 (by rw [show mx + 2 - 1 = mx + 1 by omega]; omega) (by rw [show mx + 2 - 1 = mx + 1 by omega]; omega) (by omega) (by omega)) (fun v w hP => ?_)
    obtain ⟨rfl, f3, n3, b3, hw, hn3, hv3⟩ := hP
    refine p_ret m_Wh_add rfl rfl ?_
    refine ⟨rfl, w1, d1, cap1, f3, n3, b3, hw, hX, ?_, by omega, by omega⟩
    have hval : (if b = 1 then - dw f2 (mx + 2) else dw f2 (mx + 2)) = v + sg * va := by
      rw [hv2]
      rcases hs with ⟨rfl, ev⟩ | ⟨rfl, _, ev⟩ <;> rcases hgs with ⟨rfl, eva⟩ | ⟨rfl, _, eva⟩ <;> rcases hsg with rfl | rfl <;> simp at hF <;> subst hF <;> simp <;> omega
    rw [← hval]; exact hv3
  refine fi_step (pc' := 20) m_Wh_add rfl rfl ?_
  refine fi_step (pc' := 21) m_Wh_add rfl rfl ?_
  refine fi_step (pc' := 22) m_Wh_add rfl rfl ?_
  first | refine t_get (p := 25) m_Wh_add rfl rfl (by assumption) rfl ?_ | refine o_get (p := 25) m_Wh_add rfl rfl (by assumption) (by assumption) rfl ?_
  refine fi_step (pc' := 26) m_Wh_add rfl rfl ?_
  first | refine t_get (p := 29) m_Wh_add rfl rfl (by assumption) rfl ?_ | refine o_get (p := 29) m_Wh_add rfl rfl (by assumption) (by assumption) rfl ?_
  refine s_ic_ne (p := 32) m_Wh_add rfl rfl (by omega) (by omega) (by omega) (by omega) (fun hbq => ?_) (fun hbq => ?_)
  · refine fi_step (pc' := 38) m_Wh_add rfl rfl ?_
    refine s_ineg (p := 39) m_Wh_add rfl rfl ?_
    refine s_i2l (p := 40) m_Wh_add rfl rfl (by omega) (by omega) ?_
    exact goF (-sg) (Or.inr ⟨rfl, hbq⟩)
  · refine fi_step (pc' := 33) m_Wh_add rfl rfl ?_
    refine s_i2l (p := 34) m_Wh_add rfl rfl (by omega) (by omega) ?_
    refine fi_step (pc' := 40) m_Wh_add rfl rfl ?_
    exact goF sg (Or.inl ⟨rfl, hbq⟩)
theorem prod_loop {F v : Int} {a e cp a' e' cp' k1 k2 top : Nat} {g g' : Int → Int} {q q' : Int} {sg : Int} {y5 : Value} {f0 : Int → Int} (hc : cap < 100000) (ht : top ≤ cap) (ho : OW w0 c d a e cp g k1 q) (hk1 : k1 ≤ cp) (hcp : cp < 20000) (hg : dgs g k1) (ho' : OW w0 c d a' e' cp' g' k2 q') (hk2 : k2 ≤ cp') (hcp' : cp' < 20000) (hg' : dgs g' k2) (hF : F = 1 ∨ F = -1) (htop : k1 + k2 + 1 ≤ top) (V0 : 0 ≤ dw f0 top) (V1 : dw f0 top < 1000000000 ^ (top - 1)) (hfr : 1 ≤ fr) (hlo : 40 ≤ lo)
    (K : ∀ (w : ax_W) (f : Int → Int) (y8 : Option Value), TW w0 w c d cap f n b → (∀ i : Nat, i + 1 < top → 0 ≤ f i ∧ f i < 1000000000) → -2 ≤ f (top - 1 : Nat) → f (top - 1 : Nat) < 2 → dw f top = dw f0 top + F * (dw g k1 * dw g' k2) → fin xs fr lo 35 124 [some (.ref c), some (.ref a), some (.ref a'), some (.int (jI sg)), some (.int (jI top)), some y5, some (.long (jL F)), none, y8] [] w Q) :
    ∀ (j i : Nat) (w : ax_W) (f : Int → Int), i + j = k1 → TW w0 w c d cap f n b → (∀ i : Nat, i + 1 < top → 0 ≤ f i ∧ f i < 1000000000) → dw f top = dw f0 top + F * (dw g i * dw g' k2) →
    fin xs fr lo 35 89 [some (.ref c), some (.ref a), some (.ref a'), some (.int (jI sg)), some (.int (jI top)), some y5, some (.long (jL F)), none, some (.int (jI i))] [] w Q := by
  have tb : ∀ (i : Nat) (f : Int → Int), i ≤ k1 → (∀ i : Nat, i + 1 < top → 0 ≤ f i ∧ f i < 1000000000) → dw f top = dw f0 top + F * (dw g i * dw g' k2) → -2 ≤ f (top - 1 : Nat) ∧ f (top - 1 : Nat) < 2 := by
    intro i f hi hd hE
    have a1 := dw_nn (f := g) (n := i) (fun k hk => hg k (by omega))
    have a2 := dw_lt (f := g) (n := i) (fun k hk => hg k (by omega))
    have b1 := dw_nn hg'
    have b2 := dw_lt hg'
    have hp : dw g i * dw g' k2 ≤ 1000000000 ^ i * 1000000000 ^ k2 := Int.le_trans (Int.mul_le_mul_of_nonneg_right (Int.le_of_lt a2) b1) (Int.mul_le_mul_of_nonneg_left (Int.le_of_lt b2) (Int.le_of_lt (Int.pow_pos (by decide))))
    have h0 := Int.mul_nonneg a1 b1
    rw [← Int.pow_add] at hp
    have hm : (1000000000 : Int) ^ (i + k2) ≤ 1000000000 ^ (top - 1) := pow_mono (by decide) (by omega)
    have := top_digit (f := f) (t := top - 1) (k := 2) (fun k hk => hd k (by omega)) (by decide) (by
      rw [show top - 1 + 1 = top by omega, hE]
      rcases hF with rfl | rfl <;> omega) (by
      rw [show top - 1 + 1 = top by omega, hE]
      rcases hF with rfl | rfl <;> omega)
    exact this
  intro j
  induction j with
  | zero =>
    intro i w f hi hw hd hE
    obtain rfl : i = k1 := by omega
    have := tb i f (by omega) hd hE
    refine fi_step (pc' := 91) m_Wh_addProduct rfl rfl ?_
    refine fi_step (pc' := 92) m_Wh_addProduct rfl rfl ?_
    first | refine t_get (p := 95) m_Wh_addProduct rfl rfl (by assumption) rfl ?_ | refine o_get (p := 95) m_Wh_addProduct rfl rfl (by assumption) (by assumption) rfl ?_
    refine s_ic_ge (p := 98) m_Wh_addProduct rfl rfl (by omega) (by omega) (by omega) (by omega) (fun hbr => ?_) (fun hbr => False.elim (by omega))
    exact K w f _ hw hd this.1 this.2 hE
  | succ j ih =>
    intro i w f hi hw hd hE
    have t2 := tb i f (by omega) hd hE
    have gi := hg i (by omega)
    have hFg : -1000000000 ≤ F * g i ∧ F * g i ≤ 1000000000 := by rcases hF with rfl | rfl <;> omega
    refine fi_step (pc' := 91) m_Wh_addProduct rfl rfl ?_
    refine fi_step (pc' := 92) m_Wh_addProduct rfl rfl ?_
    first | refine t_get (p := 95) m_Wh_addProduct rfl rfl (by assumption) rfl ?_ | refine o_get (p := 95) m_Wh_addProduct rfl rfl (by assumption) (by assumption) rfl ?_
    refine s_ic_ge (p := 98) m_Wh_addProduct rfl rfl (by omega) (by omega) (by omega) (by omega) (fun hbr => False.elim (by omega)) (fun hbr => ?_)
    refine fi_step (pc' := 99) m_Wh_addProduct rfl rfl ?_
    refine fi_step (pc' := 100) m_Wh_addProduct rfl rfl ?_
    refine fi_step (pc' := 102) m_Wh_addProduct rfl rfl ?_
    refine fi_step (pc' := 103) m_Wh_addProduct rfl rfl ?_
    first | refine t_get (p := 106) m_Wh_addProduct rfl rfl (by assumption) rfl ?_ | refine o_get (p := 106) m_Wh_addProduct rfl rfl (by assumption) (by assumption) rfl ?_
    refine fi_step (pc' := 108) m_Wh_addProduct rfl rfl ?_
    first | refine t_ld (p := 109) m_Wh_addProduct rfl rfl (by assumption) (by omega) (by omega) (by omega) ?_ | refine o_ld (p := 109) m_Wh_addProduct rfl rfl (by assumption) (by assumption) (by omega) (by omega) (by omega) ?_
    refine s_i2l (p := 110) m_Wh_addProduct rfl rfl (by omega) (by omega) ?_
    refine s_lmul (p := 111) m_Wh_addProduct rfl rfl ?_
    refine fi_step (pc' := 113) m_Wh_addProduct rfl rfl ?_
    refine fi_step (pc' := 115) m_Wh_addProduct rfl rfl ?_
    refine g_5 (p := 118) m_Wh_addProduct rfl inv_v (by decide) m_Wh_addLine rfl rfl (by omega) (by omega) (Nat.le_of_ble_eq_true rfl) (Nat.le_of_ble_eq_true rfl) (TW_rcv hw _) (h_addLine (F := F * g i) (sh := i) (top := top) hw hc (by omega) ht ho' hk2 hg' (by omega) hFg.1 hFg.2 hd (by omega) (by omega)) (fun v w hP => ?_)
    obtain ⟨rfl, f2, hw, hd2, _, hv2⟩ := hP
    refine s_iinc (p := 121) m_Wh_addProduct rfl rfl rfl ?_
    refine fi_step (pc' := 89) m_Wh_addProduct rfl rfl ?_
    refine ih (i + 1) w f2 (by omega) hw hd2 ?_
    rw [hv2, hE, dw_succ]; grind
theorem h_addProduct {v va vb sg : Int} {a e cp a' e' cp' k0 k1 k2 : Nat} {g g' : Int → Int} {q q' : Int} (hw : TW w0 w c d cap f k0 b) (hv : Wv f k0 b v) (hn : k0 ≤ cap) (hc : cap < 20000) (ho : OW w0 c d a e cp g k1 q) (hva : Wv g k1 q va) (hk1 : k1 ≤ cp) (hcp : cp < 10000) (ho' : OW w0 c d a' e' cp' g' k2 q') (hvb : Wv g' k2 q' vb) (hk2 : k2 ≤ cp') (hcp' : cp' < 10000) (hsg : sg = 1 ∨ sg = -1) (hfr : 3 ≤ fr) (hlo : 210 ≤ lo) {K : Nat} (hK1 : k0 + 33 ≤ K) (hK2 : k1 + k2 + 33 ≤ K) :
    fin xs fr lo 35 0 (ax_ent [.ref c, .ref a, .ref a', .int (jI sg)] 9) [] w (Ret fun u w' => u = none ∧ gotW w0 w' c d cap (v + sg * (va * vb)) K) := by
  have hza := Wv_zero hva
  have hzb := Wv_zero hvb
  have hbb := Wv_b hv
  have hqq := Wv_b hva
  have hqq' := Wv_b hvb
  have hv0 := hv
  obtain ⟨_, hk, hd, hl, hs⟩ := hv
  obtain rfl := Int.ofNat.inj hk
  obtain ⟨_, hk, hgd, hgl, hgs⟩ := hva
  obtain rfl := Int.ofNat.inj hk
  obtain ⟨_, hk, hgd', hgl', hgs'⟩ := hvb
  obtain rfl := Int.ofNat.inj hk
  have none' : va * vb = 0 → fin xs fr lo 35 14 [some (.ref c), some (.ref a), some (.ref a'), some (.int (jI sg)), none, none, none, none, none] [] w (Ret fun u w' => u = none ∧ gotW w0 w' c d cap (v + sg * (va * vb)) K) := by
    intro hz
    refine p_ret m_Wh_addProduct rfl rfl ?_
    exact ⟨rfl, w0, d, cap, f, k0, b, hw, XT_refl _ _ _ _, by rw [hz, Int.mul_zero, Int.add_zero]; exact hv0, by omega, Or.inl rfl⟩
  by_cases h1 : k1 = 0
  · refine fi_step (pc' := 1) m_Wh_addProduct rfl rfl ?_
    first | refine t_get (p := 4) m_Wh_addProduct rfl rfl (by assumption) rfl ?_ | refine o_get (p := 4) m_Wh_addProduct rfl rfl (by assumption) (by assumption) rfl ?_
    refine s_if_eq (p := 7) m_Wh_addProduct rfl rfl (by omega) (by omega) (fun hbr => ?_) (fun hbr => False.elim (by omega))
    exact none' (by rw [hza.mpr (by omega), Int.zero_mul])
  · by_cases h2 : k2 = 0
    · refine fi_step (pc' := 1) m_Wh_addProduct rfl rfl ?_
      first | refine t_get (p := 4) m_Wh_addProduct rfl rfl (by assumption) rfl ?_ | refine o_get (p := 4) m_Wh_addProduct rfl rfl (by assumption) (by assumption) rfl ?_
      refine s_if_eq (p := 7) m_Wh_addProduct rfl rfl (by omega) (by omega) (fun hbr => False.elim (by omega)) (fun hbr => ?_)
      refine fi_step (pc' := 8) m_Wh_addProduct rfl rfl ?_
      first | refine t_get (p := 11) m_Wh_addProduct rfl rfl (by assumption) rfl ?_ | refine o_get (p := 11) m_Wh_addProduct rfl rfl (by assumption) (by assumption) rfl ?_
      refine s_if_ne (p := 14) m_Wh_addProduct rfl rfl (by omega) (by omega) (fun hbr => False.elim (by omega)) (fun hbr => ?_)
      exact none' (by rw [hzb.mpr (by omega), Int.mul_zero])
    · obtain ⟨mx, hmx1, hmx2, hmx3, hmx4⟩ : ∃ mx : Nat, (if ((k1 : Int) + k2) ≤ k0 then (k0 : Int) else (k1 : Int) + k2) = mx ∧ k0 ≤ mx ∧ k1 + k2 ≤ mx ∧ (mx = k0 ∨ mx = k1 + k2) := by
        by_cases h : ((k1 : Int) + k2) ≤ k0
        · exact ⟨k0, by rw [if_pos h], by omega, by omega, Or.inl rfl⟩
        · exact ⟨k1 + k2, by rw [if_neg h]; omega, by omega, by omega, Or.inr rfl⟩
      refine fi_step (pc' := 1) m_Wh_addProduct rfl rfl ?_
      first | refine t_get (p := 4) m_Wh_addProduct rfl rfl (by assumption) rfl ?_ | refine o_get (p := 4) m_Wh_addProduct rfl rfl (by assumption) (by assumption) rfl ?_
      refine s_if_eq (p := 7) m_Wh_addProduct rfl rfl (by omega) (by omega) (fun hbr => False.elim (by omega)) (fun hbr => ?_)
      refine fi_step (pc' := 8) m_Wh_addProduct rfl rfl ?_
      first | refine t_get (p := 11) m_Wh_addProduct rfl rfl (by assumption) rfl ?_ | refine o_get (p := 11) m_Wh_addProduct rfl rfl (by assumption) (by assumption) rfl ?_
      refine s_if_ne (p := 14) m_Wh_addProduct rfl rfl (by omega) (by omega) (fun hbr => ?_) (fun hbr => False.elim (by omega))
      refine fi_step (pc' := 16) m_Wh_addProduct rfl rfl ?_
      first | refine t_get (p := 19) m_Wh_addProduct rfl rfl (by assumption) rfl ?_ | refine o_get (p := 19) m_Wh_addProduct rfl rfl (by assumption) (by assumption) rfl ?_
      refine fi_step (pc' := 20) m_Wh_addProduct rfl rfl ?_
      first | refine t_get (p := 23) m_Wh_addProduct rfl rfl (by assumption) rfl ?_ | refine o_get (p := 23) m_Wh_addProduct rfl rfl (by assumption) (by assumption) rfl ?_
      refine fi_step (pc' := 24) m_Wh_addProduct rfl rfl ?_
      first | refine t_get (p := 27) m_Wh_addProduct rfl rfl (by assumption) rfl ?_ | refine o_get (p := 27) m_Wh_addProduct rfl rfl (by assumption) (by assumption) rfl ?_
      refine s_iadd (p := 28) m_Wh_addProduct rfl rfl ?_
      refine c_2 (p := 31) m_Wh_addProduct rfl inv_s (by decide) m_Mt_max rfl rfl (by omega) (by omega) (Nat.le_of_ble_eq_true rfl) (Nat.le_of_ble_eq_true rfl) rfl (h_max (by omega) (by omega) (by omega) (by omega)) ?_
      rw [hmx1]
      refine fi_step (pc' := 32) m_Wh_addProduct rfl rfl ?_
      refine s_iadd (p := 33) m_Wh_addProduct rfl rfl ?_
      refine fi_step (pc' := 35) m_Wh_addProduct rfl rfl ?_
      refine fi_step (pc' := 36) m_Wh_addProduct rfl rfl ?_
      refine fi_step (pc' := 38) m_Wh_addProduct rfl rfl ?_
      rw [show (mx : Int) + 1 = ((mx + 1 : Nat) : Int) by omega]
      refine g_2 (p := 41) m_Wh_addProduct rfl inv_v (by decide) m_Wh_widen rfl rfl (by omega) (by omega) (Nat.le_of_ble_eq_true rfl) (Nat.le_of_ble_eq_true rfl) (TW_rcv hw _) (h_widen (t := mx + 1) (m := k0) hw (by omega) (by omega) (by omega) (by omega) (by omega)) (fun v w hP => ?_)
      obtain ⟨rfl, w1, d1, cap1, f1, hw, hX, hc1, hc2, hf1, hf2⟩ := hP
      have ho1 := XT_OW hX ho
      have ho1' := XT_OW hX ho'
      have hcap1 : cap1 < 100000 := by omega
      have hdv : dw f1 (mx + 1) = dw f k0 := dw_ext (by omega) hf1 hf2
      have hd1 : ∀ i : Nat, i + 1 < mx + 1 → 0 ≤ f1 i ∧ f1 i < 1000000000 := by
        intro i hi
        by_cases h : i < k0
        · rw [hf1 i h]; exact hd i h
        · rw [hf2 i (by omega) (by omega)]; omega
      have fnn := dw_nn hd
      have flt := dw_lt hd
      have pn : (1000000000 : Int) ^ k0 ≤ 1000000000 ^ mx := pow_mono (by decide) hmx2
      have goF : ∀ (F l5 : Int), (F = sg ∧ ((q = q' ∧ b = 0) ∨ (¬ q = q' ∧ b = 1))) ∨ (F = -sg ∧ ((q = q' ∧ b = 1) ∨ (¬ q = q' ∧ b = 0))) → fin xs fr lo 35 84 [some (.ref c), some (.ref a), some (.ref a'), some (.int (jI sg)), some (.int (jI ((mx + 1 : Nat) : Int))), some (.int (jI l5)), none, none, none] [.long (jL F)] w (Ret fun u w' => u = none ∧ gotW w0 w' c d cap (v + sg * (va * vb)) K) := by
        intro F l5 hF
        have hF1 : F = 1 ∨ F = -1 := by omega
        refine fi_step (pc' := 86) m_Wh_addProduct rfl rfl ?_
        refine fi_step (pc' := 87) m_Wh_addProduct rfl rfl ?_
        refine fi_step (pc' := 89) m_Wh_addProduct rfl rfl ?_
        refine prod_loop (F := F) (v := v) (top := mx + 1) (k1 := k1) (k2 := k2) (f0 := f1) (n := k0) (b := b) hcap1 hc1 ho1 hk1 (by omega) hgd ho1' hk2 (by omega) hgd' hF1 (by omega) (by rw [hdv]; exact fnn) (by rw [hdv, show mx + 1 - 1 = mx by omega]; omega) (by omega) (by omega) ?_ k1 0 w f1 (by omega) hw hd1 (by
          have e0 : dw g 0 = 0 := rfl
          rw [e0]; simp)
        intro w f2 y8 hw hd2 t0 t1 hv2
        rw [hdv] at hv2
        refine fi_step (pc' := 125) m_Wh_addProduct rfl rfl ?_
        refine fi_step (pc' := 127) m_Wh_addProduct rfl rfl ?_
        refine g_2 (p := 130) m_Wh_addProduct rfl inv_v (by decide) m_Wh_straighten rfl rfl (by omega) (by omega) (Nat.le_of_ble_eq_true rfl) (Nat.le_of_ble_eq_true rfl) (TW_rcv hw _) (h_straighten (top := mx + 1) hw hbb hcap1 hc1 (by omega) hd2 (by omega) (by omega) (by omega) (by omega)) (fun v w hP => ?_)
        obtain ⟨rfl, f3, n3, b3, hw, hn3, hv3⟩ := hP
        refine p_ret m_Wh_addProduct rfl rfl ?_
        refine ⟨rfl, w1, d1, cap1, f3, n3, b3, hw, hX, ?_, by omega, by omega⟩
        have hval : (if b = 1 then - dw f2 (mx + 1) else dw f2 (mx + 1)) = v + sg * (va * vb) := by
          rw [hv2]
          generalize hA : dw g k1 = A at *
          generalize hB : dw g' k2 = B at *
          generalize hC : dw f k0 = C at *
          rcases hs with ⟨rfl, ev⟩ | ⟨rfl, _, ev⟩ <;> rcases hgs with ⟨rfl, eva⟩ | ⟨rfl, _, eva⟩ <;> rcases hgs' with ⟨rfl, evb⟩ | ⟨rfl, _, evb⟩ <;> rcases hsg with rfl | rfl <;> simp at hF <;> subst hF <;> subst ev <;> subst eva <;> subst evb <;> simp <;> grind
        rw [← hval]; exact hv3
      have sides : ∀ l : Int, (l = 1 ∧ ((q = q' ∧ b = 0) ∨ (¬ q = q' ∧ b = 1))) ∨ (l = 0 ∧ ((q = q' ∧ b = 1) ∨ (¬ q = q' ∧ b = 0))) → fin xs fr lo 35 69 [some (.ref c), some (.ref a), some (.ref a'), some (.int (jI sg)), some (.int (jI ((mx + 1 : Nat) : Int))), none, none, none, none] [.int (jI l)] w (Ret fun u w' => u = none ∧ gotW w0 w' c d cap (v + sg * (va * vb)) K) := by
        intro l hl
        by_cases hl1 : l = 1
        · refine fi_step (pc' := 71) m_Wh_addProduct rfl rfl ?_
          refine fi_step (pc' := 73) m_Wh_addProduct rfl rfl ?_
          refine s_if_eq (p := 76) m_Wh_addProduct rfl rfl (by omega) (by omega) (fun hbr => False.elim (by omega)) (fun hbr => ?_)
          refine fi_step (pc' := 77) m_Wh_addProduct rfl rfl ?_
          refine s_i2l (p := 78) m_Wh_addProduct rfl rfl (by omega) (by omega) ?_
          refine fi_step (pc' := 84) m_Wh_addProduct rfl rfl ?_
          exact goF sg _ (by omega)
        · refine fi_step (pc' := 71) m_Wh_addProduct rfl rfl ?_
          refine fi_step (pc' := 73) m_Wh_addProduct rfl rfl ?_
          refine s_if_eq (p := 76) m_Wh_addProduct rfl rfl (by omega) (by omega) (fun hbr => ?_) (fun hbr => False.elim (by omega))
          refine fi_step (pc' := 82) m_Wh_addProduct rfl rfl ?_
          refine s_ineg (p := 83) m_Wh_addProduct rfl rfl ?_
          refine s_i2l (p := 84) m_Wh_addProduct rfl rfl (by omega) (by omega) ?_
          exact goF (-sg) _ (by omega)
      by_cases hq : q = q'
      · rcases hbb with hb0 | hb1
        · refine fi_step (pc' := 42) m_Wh_addProduct rfl rfl ?_
          first | refine t_get (p := 45) m_Wh_addProduct rfl rfl (by assumption) rfl ?_ | refine o_get (p := 45) m_Wh_addProduct rfl rfl (by assumption) (by assumption) rfl ?_
          refine fi_step (pc' := 46) m_Wh_addProduct rfl rfl ?_
          first | refine t_get (p := 49) m_Wh_addProduct rfl rfl (by assumption) rfl ?_ | refine o_get (p := 49) m_Wh_addProduct rfl rfl (by assumption) (by assumption) rfl ?_
          refine s_ic_ne (p := 52) m_Wh_addProduct rfl rfl (by omega) (by omega) (by omega) (by omega) (fun hbr => False.elim (by omega)) (fun hbr => ?_)
          refine fi_step (pc' := 53) m_Wh_addProduct rfl rfl ?_
          refine fi_step (pc' := 57) m_Wh_addProduct rfl rfl ?_
          refine fi_step (pc' := 58) m_Wh_addProduct rfl rfl ?_
          first | refine t_get (p := 61) m_Wh_addProduct rfl rfl (by assumption) rfl ?_ | refine o_get (p := 61) m_Wh_addProduct rfl rfl (by assumption) (by assumption) rfl ?_
          refine s_ic_eq (p := 64) m_Wh_addProduct rfl rfl (by omega) (by omega) (by omega) (by omega) (fun hbr => False.elim (by omega)) (fun hbr => ?_)
          refine fi_step (pc' := 65) m_Wh_addProduct rfl rfl ?_
          refine fi_step (pc' := 69) m_Wh_addProduct rfl rfl ?_
          exact sides 1 (by omega)
        · refine fi_step (pc' := 42) m_Wh_addProduct rfl rfl ?_
          first | refine t_get (p := 45) m_Wh_addProduct rfl rfl (by assumption) rfl ?_ | refine o_get (p := 45) m_Wh_addProduct rfl rfl (by assumption) (by assumption) rfl ?_
          refine fi_step (pc' := 46) m_Wh_addProduct rfl rfl ?_
          first | refine t_get (p := 49) m_Wh_addProduct rfl rfl (by assumption) rfl ?_ | refine o_get (p := 49) m_Wh_addProduct rfl rfl (by assumption) (by assumption) rfl ?_
          refine s_ic_ne (p := 52) m_Wh_addProduct rfl rfl (by omega) (by omega) (by omega) (by omega) (fun hbr => False.elim (by omega)) (fun hbr => ?_)
          refine fi_step (pc' := 53) m_Wh_addProduct rfl rfl ?_
          refine fi_step (pc' := 57) m_Wh_addProduct rfl rfl ?_
          refine fi_step (pc' := 58) m_Wh_addProduct rfl rfl ?_
          first | refine t_get (p := 61) m_Wh_addProduct rfl rfl (by assumption) rfl ?_ | refine o_get (p := 61) m_Wh_addProduct rfl rfl (by assumption) (by assumption) rfl ?_
          refine s_ic_eq (p := 64) m_Wh_addProduct rfl rfl (by omega) (by omega) (by omega) (by omega) (fun hbr => ?_) (fun hbr => False.elim (by omega))
          refine fi_step (pc' := 69) m_Wh_addProduct rfl rfl ?_
          exact sides 0 (by omega)
      · rcases hbb with hb0 | hb1
        · refine fi_step (pc' := 42) m_Wh_addProduct rfl rfl ?_
          first | refine t_get (p := 45) m_Wh_addProduct rfl rfl (by assumption) rfl ?_ | refine o_get (p := 45) m_Wh_addProduct rfl rfl (by assumption) (by assumption) rfl ?_
          refine fi_step (pc' := 46) m_Wh_addProduct rfl rfl ?_
          first | refine t_get (p := 49) m_Wh_addProduct rfl rfl (by assumption) rfl ?_ | refine o_get (p := 49) m_Wh_addProduct rfl rfl (by assumption) (by assumption) rfl ?_
          refine s_ic_ne (p := 52) m_Wh_addProduct rfl rfl (by omega) (by omega) (by omega) (by omega) (fun hbr => ?_) (fun hbr => False.elim (by omega))
          refine fi_step (pc' := 57) m_Wh_addProduct rfl rfl ?_
          refine fi_step (pc' := 58) m_Wh_addProduct rfl rfl ?_
          first | refine t_get (p := 61) m_Wh_addProduct rfl rfl (by assumption) rfl ?_ | refine o_get (p := 61) m_Wh_addProduct rfl rfl (by assumption) (by assumption) rfl ?_
          refine s_ic_eq (p := 64) m_Wh_addProduct rfl rfl (by omega) (by omega) (by omega) (by omega) (fun hbr => ?_) (fun hbr => False.elim (by omega))
          refine fi_step (pc' := 69) m_Wh_addProduct rfl rfl ?_
          exact sides 0 (by omega)
        · refine fi_step (pc' := 42) m_Wh_addProduct rfl rfl ?_
          first | refine t_get (p := 45) m_Wh_addProduct rfl rfl (by assumption) rfl ?_ | refine o_get (p := 45) m_Wh_addProduct rfl rfl (by assumption) (by assumption) rfl ?_
          refine fi_step (pc' := 46) m_Wh_addProduct rfl rfl ?_
          first | refine t_get (p := 49) m_Wh_addProduct rfl rfl (by assumption) rfl ?_ | refine o_get (p := 49) m_Wh_addProduct rfl rfl (by assumption) (by assumption) rfl ?_
          refine s_ic_ne (p := 52) m_Wh_addProduct rfl rfl (by omega) (by omega) (by omega) (by omega) (fun hbr => ?_) (fun hbr => False.elim (by omega))
          refine fi_step (pc' := 57) m_Wh_addProduct rfl rfl ?_
          refine fi_step (pc' := 58) m_Wh_addProduct rfl rfl ?_
          first | refine t_get (p := 61) m_Wh_addProduct rfl rfl (by assumption) rfl ?_ | refine o_get (p := 61) m_Wh_addProduct rfl rfl (by assumption) (by assumption) rfl ?_
          refine s_ic_eq (p := 64) m_Wh_addProduct rfl rfl (by omega) (by omega) (by omega) (by omega) (fun hbr => False.elim (by omega)) (fun hbr => ?_)
          refine fi_step (pc' := 65) m_Wh_addProduct rfl rfl ?_
          refine fi_step (pc' := 69) m_Wh_addProduct rfl rfl ?_
          exact sides 1 (by omega)
end WH6
