/-! THE CLASS: numbers in its world; matrices -/
section CN
variable {xs : List Int32} {fr lo : Nat} {w0 w : ax_W} {s : mo_S} {v : Nat → Int} {L Z c a a' : Nat}
theorem C_rcvW (hC : CW w0 w s v L Z) (hc : isWh c) (as : List Value) : ax_rcv 8 (.ref c :: as) w = true := by
  obtain ⟨w1, hS, h18, bk⟩ := CW_SN hC; exact SN_rcv hS hc as
theorem C_rcvD (hC : CW w0 w s v L Z) (as : List Value) : ax_rcv 1 (.ref 0 :: as) w = true := by
  simp only [ax_rcv, (CW_cst hC).2.1, beq_self_eq_true]
theorem C_rcvV (hC : CW w0 w s v L Z) (as : List Value) : ax_rcv 2 (.ref 18 :: as) w = true := by
  simp only [ax_rcv, (CW_cst hC).2.2.2.1, beq_self_eq_true]
theorem C_rcvM {m : Nat} (hC : CW w0 w s v L Z) (hm : m < 7) (as : List Value) : ax_rcv 3 (.ref (2 + 2 * m) :: as) w = true := by
  simp only [ax_rcv, C_mat hC hm, beq_self_eq_true]
theorem C_rcvI (hC : CW w0 w s v L Z) (as : List Value) : ax_rcv 4 (.ref 29 :: as) w = true := by
  simp only [ax_rcv, C_minors hC, beq_self_eq_true]
theorem C_rcvS (hC : CW w0 w s v L Z) (as : List Value) : ax_rcv 7 (.ref 232 :: as) w = true := by
  simp only [ax_rcv, C_stairs hC, beq_self_eq_true]
theorem C_rcvR {i : Nat} (hC : CW w0 w s v L Z) (hi : i < 7) (as : List Value) : ax_rcv 6 (.ref (236 + 26 * i) :: as) w = true := by
  simp only [ax_rcv, ((CW_cst hC).2.2.2.2.2.2 i hi).1, beq_self_eq_true]
theorem cn_clear (hC : CW w0 w s v L Z) (hc : isWh c) : fin xs fr lo 6 0 (ax_ent [.ref c] 1) [] w (Ret fun u w' => u = none ∧ CW w0 w' s (upv v c 0) L Z) := by
  obtain ⟨w1, hS, h18, bk⟩ := CW_SN hC
  exact fi_mono (n_clear hS hc) (fun o w' ⟨u, e, hu, h⟩ => ⟨u, e, hu, bk _ _ h⟩)
theorem cn_negate (hC : CW w0 w s v L Z) (hc : isWh c) : fin xs fr lo 70 0 (ax_ent [.ref c] 1) [] w (Ret fun u w' => u = none ∧ CW w0 w' s (upv v c (- v c)) L Z) := by
  obtain ⟨w1, hS, h18, bk⟩ := CW_SN hC
  exact fi_mono (n_negate hS hc) (fun o w' ⟨u, e, hu, h⟩ => ⟨u, e, hu, bk _ _ h⟩)
theorem cn_add {sg : Int} {k1 k2 : Nat} (hC : CW w0 w s v L Z) (hc : isWh c) (ha : isWh a) (hne : a ≠ c) (hsg : sg = 1 ∨ sg = -1) (b1 : ((v c).natAbs : Int) < 1000000000 ^ k1) (b2 : ((v a).natAbs : Int) < 1000000000 ^ k2) (K1 : k1 + 34 ≤ capB c) (K2 : k2 + 34 ≤ capB c) (hfr : 3 ≤ fr) (hlo : 200 ≤ lo) :
    fin xs fr lo 71 0 (ax_ent [.ref c, .ref a, .int (jI sg)] 4) [] w (Ret fun u w' => u = none ∧ CW w0 w' s (upv v c (v c + sg * v a)) L Z) := by
  obtain ⟨w1, hS, h18, bk⟩ := CW_SN hC
  exact fi_mono (n_add hS hc ha hne hsg b1 b2 K1 K2 hfr hlo) (fun o w' ⟨u, e, hu, h⟩ => ⟨u, e, hu, bk _ _ h⟩)
theorem cn_addProduct {sg : Int} {k0 k1 k2 : Nat} (hC : CW w0 w s v L Z) (hc : isWh c) (ha : isWh a) (ha' : isWh a') (hne : a ≠ c) (hne' : a' ≠ c) (hsg : sg = 1 ∨ sg = -1) (b0 : ((v c).natAbs : Int) < 1000000000 ^ k0) (b1 : ((v a).natAbs : Int) < 1000000000 ^ k1) (b2 : ((v a').natAbs : Int) < 1000000000 ^ k2) (K0 : k0 + 33 ≤ capB c) (K1 : k1 + k2 + 33 ≤ capB c) (hfr : 3 ≤ fr) (hlo : 210 ≤ lo) :
    fin xs fr lo 35 0 (ax_ent [.ref c, .ref a, .ref a', .int (jI sg)] 9) [] w (Ret fun u w' => u = none ∧ CW w0 w' s (upv v c (v c + sg * (v a * v a'))) L Z) := by
  obtain ⟨w1, hS, h18, bk⟩ := CW_SN hC
  exact fi_mono (n_addProduct hS hc ha ha' hne hne' hsg b0 b1 b2 K0 K1 hfr hlo) (fun o w' ⟨u, e, hu, h⟩ => ⟨u, e, hu, bk _ _ h⟩)
theorem cn_becomeW {k : Nat} (hC : CW w0 w s v L Z) (hc : isWh c) (ha : isWh a) (hne : a ≠ c) (b1 : ((v a).natAbs : Int) < 1000000000 ^ k) (K1 : k + 32 ≤ capB c) (hfr : 1 ≤ fr) (hlo : 100 ≤ lo) :
    fin xs fr lo 64 0 (ax_ent [.ref c, .ref a] 2) [] w (Ret fun u w' => u = none ∧ CW w0 w' s (upv v c (v a)) L Z) := by
  obtain ⟨w1, hS, h18, bk⟩ := CW_SN hC
  exact fi_mono (n_becomeW hS hc ha hne b1 K1 hfr hlo) (fun o w' ⟨u, e, hu, h⟩ => ⟨u, e, hu, bk _ _ h⟩)
theorem cn_becomeJ {x : Int} (hC : CW w0 w s v L Z) (hc : isWh c) (x0 : -4611686018427387904 ≤ x) (x1 : x ≤ 4611686018427387904) (hfr : 3 ≤ fr) (hlo : 190 ≤ lo) :
    fin xs fr lo 5 0 (ax_ent [.ref c, .long (jL x)] 6) [] w (Ret fun u w' => u = none ∧ CW w0 w' s (upv v c x) L Z) := by
  obtain ⟨w1, hS, h18, bk⟩ := CW_SN hC
  exact fi_mono (n_becomeJ hS hc x0 x1 hfr hlo) (fun o w' ⟨u, e, hu, h⟩ => ⟨u, e, hu, bk _ _ h⟩)
theorem cn_isZero (hC : CW w0 w s v L Z) (hc : isWh c) : fin xs fr lo 54 0 (ax_ent [.ref c] 1) [] w (Same (.int (jI (if v c = 0 then 1 else 0))) w) := by
  obtain ⟨w1, hS, h18, bk⟩ := CW_SN hC; exact n_isZero hS hc
theorem cn_isOne (hC : CW w0 w s v L Z) (hc : isWh c) : fin xs fr lo 103 0 (ax_ent [.ref c] 1) [] w (Same (.int (jI (if v c = 1 then 1 else 0))) w) := by
  obtain ⟨w1, hS, h18, bk⟩ := CW_SN hC; exact n_isOne hS hc
theorem cn_less (hC : CW w0 w s v L Z) (hc : isWh c) (ha : isWh a) (hne : a ≠ c) : fin xs fr lo 66 0 (ax_ent [.ref c, .ref a] 3) [] w (Same (.int (jI (if ((v c).natAbs : Int) < (v a).natAbs then 1 else 0))) w) := by
  obtain ⟨w1, hS, h18, bk⟩ := CW_SN hC; exact n_less hS hc ha hne
theorem fits_iff {f : Int → Int} {k : Nat} {b x : Int} (h : Wv f k b x) : (k : Int) ≤ 2 ↔ x.natAbs < 1000000000000000000 := by
  have e : (1000000000 : Int) ^ 2 = 1000000000000000000 := by decide
  constructor
  · intro hk
    obtain ⟨_, e1, hd, hX⟩ := Wv_abs h
    obtain rfl := Int.ofNat.inj e1
    have h1 := dw_lt hd
    have h2 : k = 0 ∨ k = 1 ∨ k = 2 := by omega
    rcases h2 with rfl | rfl | rfl
    · have : (1000000000 : Int) ^ 0 = 1 := rfl
      omega
    · have : (1000000000 : Int) ^ 1 = 1000000000 := rfl
      omega
    · omega
  · intro hx
    exact Wv_len h (k := 2) (by omega)
theorem cn_fits (hC : CW w0 w s v L Z) (hc : isWh c) : fin xs fr lo 39 0 (ax_ent [.ref c] 1) [] w (Same (.int (jI (if (v c).natAbs < 1000000000000000000 then 1 else 0))) w) := by
  obtain ⟨d, cap, f, k, b, hw, hv, hk, hcap⟩ := CW_TW hC hc
  have hh := h_fits (xs := xs) (fr := fr) (lo := lo) hw (by omega) (by omega)
  by_cases h : (v c).natAbs < 1000000000000000000
  · rw [if_pos h]; rw [if_pos ((fits_iff hv).mpr h)] at hh; exact hh
  · rw [if_neg h]; rw [if_neg (fun e => h ((fits_iff hv).mp e))] at hh; exact hh
theorem cap32 (hC : CW w0 w s v L Z) (hc : isWh c) : ∃ (d cap : Nat) (f : Int → Int) (k : Nat) (b : Int), TW w w c d cap f k b ∧ Wv f k b (v c) ∧ k ≤ cap ∧ cap < 2000 ∧ 32 ≤ cap := by
  obtain ⟨w1, ⟨t, S, hv⟩, _⟩ := hC
  obtain ⟨c1, c2, c3, c4⟩ := hv c hc
  have hT := SW_TW S hc
  have q := capB_le c
  obtain ⟨k, hk⟩ := len_nn c1
  rw [hk] at c1 c2 hT
  exact ⟨_, _, _, k, _, hT, c1, by omega, by omega, by omega⟩
theorem cn_value (hC : CW w0 w s v L Z) (hc : isWh c) (h : (v c).natAbs < 1000000000000000000) : fin xs fr lo 40 0 (ax_ent [.ref c] 3) [] w (Same (.long (jL (v c))) w) := by
  obtain ⟨d, cap, f, k, b, hw, hv, hk, hcap, h32⟩ := cap32 hC hc
  exact h_value hw hv (by omega) ((fits_iff hv).mpr h) (by omega)
end CN
/-! matrices -/
theorem C_setM {w0 w : ax_W} {s s' : mo_S} {v : Nat → Int} {L Z m : Nat} (hC : CW w0 w s v L Z) (hm : m < 7) (h0 : ∀ k, k ≠ 2 → k ≠ 3 → s' k = s k) (h2 : ∀ j : Nat, j < 7 → j ≠ m → s' 2 j = s 2 j) (h3 : ∀ j : Nat, j < 7 → j ≠ m → s' 3 j = s 3 j) : CW w0 (w.set (2 + 2 * m) (2, [.ref (3 + 2 * m), .int (jI (s' 2 m)), .int (jI (s' 3 m))])) s' v L Z := by
  have := CW_set (s' := s') hC (k := m) (by omega) (fun j hj hne => by
    unfold cs
    rw [h0 0 (by decide) (by decide), h0 1 (by decide) (by decide), h0 4 (by decide) (by decide), h0 5 (by decide) (by decide), h0 6 (by decide) (by decide)]
    by_cases e : j < 7
    · rw [if_pos e, if_pos e, h2 j e hne, h3 j e hne]
    · rw [if_neg e, if_neg e]) rfl
  have e : cs s' m = (2, [.ref (3 + 2 * m), .int (jI (s' 2 m)), .int (jI (s' 3 m))]) := by unfold cs; rw [if_pos hm]
  have e' : mcl m = 2 + 2 * m := by unfold mcl; rw [if_pos hm]
  rw [e, e'] at this
  exact this
theorem C_setN {w0 w : ax_W} {s s' : mo_S} {v : Nat → Int} {L Z m : Nat} (hC : CW w0 w s v L Z) (hm : m < 7) (h0 : ∀ k, k ≠ 1 → s' k = s k) (h1 : ∀ j : Nat, j < 7 → j ≠ m → ∀ i : Int, 0 ≤ i → i < 36 → s' 1 (36 * j + i) = s 1 (36 * j + i)) {f : Int → Int} (hf : ∀ i : Int, 0 ≤ i → i < 36 → f i = s' 1 (36 * m + i)) : CW w0 (w.set (3 + 2 * m) (21, aL 36 f)) s' v L Z := by
  have := CW_set (s' := s') hC (k := m + 7) (by omega) (fun j hj hne => by
    unfold cs
    rw [h0 0 (by decide), h0 2 (by decide), h0 3 (by decide), h0 4 (by decide), h0 5 (by decide), h0 6 (by decide)]
    by_cases e : j < 7
    · rw [if_pos e, if_pos e]
    · rw [if_neg e, if_neg e]
      by_cases e' : j < 14
      · rw [if_pos e', if_pos e']
        congr 1
        refine aL_ext (fun i i0 i1 => ?_)
        have := h1 (j - 7) (by omega) (by omega) i (by omega) (by omega)
        rw [show (36 * ((j : Int) - 7) + i) = 36 * ((j - 7 : Nat) : Int) + i by omega]
        exact this
      · rw [if_neg e', if_neg e']) rfl
  have e : cs s' (m + 7) = (21, aL 36 f) := by
    unfold cs; rw [if_neg (by omega), if_pos (by omega)]
    congr 1
    refine aL_ext (fun i i0 i1 => ?_)
    rw [hf i (by omega) (by omega), show ((m + 7 : Nat) : Int) - 7 = (m : Int) by omega]
  have e' : mcl (m + 7) = 3 + 2 * m := by unfold mcl; rw [if_neg (by omega), if_pos (by omega)]; omega
  rw [e, e'] at this
  exact this
theorem CW_congr {w0 w : ax_W} {s s' : mo_S} {v : Nat → Int} {L Z : Nat} (hC : CW w0 w s v L Z) (h : s' = s) : CW w0 w s' v L Z := h ▸ hC
/-- matrix m is R by C with numbers g -/
def gvM (s : mo_S) (m R C : Int) (g : Int → Int → Int) : mo_S := fun k => if k = 1 then newN (s 1) m R C g else if k = 2 then up1 (s 2) m R else if k = 3 then up1 (s 3) m C else s k
theorem gvM_1 (s : mo_S) (m R C : Int) (g : Int → Int → Int) : gvM s m R C g 1 = newN (s 1) m R C g := by unfold gvM; rw [if_pos rfl]
theorem gvM_2 (s : mo_S) (m R C : Int) (g : Int → Int → Int) : gvM s m R C g 2 = up1 (s 2) m R := by unfold gvM; rw [if_neg (by decide), if_pos rfl]
theorem gvM_3 (s : mo_S) (m R C : Int) (g : Int → Int → Int) : gvM s m R C g 3 = up1 (s 3) m C := by unfold gvM; rw [if_neg (by decide), if_neg (by decide), if_pos rfl]
theorem gvM_o (s : mo_S) (m R C : Int) (g : Int → Int → Int) {k : Nat} (h1 : k ≠ 1) (h2 : k ≠ 2) (h3 : k ≠ 3) : gvM s m R C g k = s k := by unfold gvM; rw [if_neg h1, if_neg h2, if_neg h3]
theorem mo_ext {s s' : mo_S} (h1 : s 1 = s' 1) (h2 : s 2 = s' 2) (h3 : s 3 = s' 3) (h : ∀ k, k ≠ 1 → k ≠ 2 → k ≠ 3 → s k = s' k) : s = s' := by
  funext k
  by_cases e1 : k = 1
  · subst e1; exact h1
  · by_cases e2 : k = 2
    · subst e2; exact h2
    · by_cases e3 : k = 3
      · subst e3; exact h3
      · exact h k e1 e2 e3
/-- numbers with one changed -/
def upg (g : Int → Int → Int) (i j x : Int) : Int → Int → Int := fun a b => if a = i ∧ b = j then x else g a b
theorem newN_up {f : Int → Int} {m R C i j x : Int} {g : Int → Int → Int} (i0 : 0 ≤ i) (i1 : i < R) (r6 : R ≤ 6) (j0 : 0 ≤ j) (j1 : j < C) (c6 : C ≤ 6) : up1 (newN f m R C g) (36 * m + (6 * i + j)) x = newN f m R C (upg g i j x) := by
  funext y
  by_cases e : y = 36 * m + (6 * i + j)
  · subst e
    rw [up1_same]
    unfold newN upg
    rw [if_pos (by omega), if_pos (by omega), if_pos (by omega)]
  · rw [up1_ne _ e]
    unfold newN upg
    split
    · split
      · rw [if_neg (by omega)]
      · rfl
    · rfl
theorem newN_out {f : Int → Int} {m R C x : Int} {g : Int → Int → Int} (h : ¬ (36 * m ≤ x ∧ x < 36 * m + 36)) : newN f m R C g x = f x := by unfold newN; rw [if_neg h]
section MA
variable {xs : List Int32} {fr lo z pc p l u1 u2 u3 idx : Nat} {ls : List (Option Value)} {st : List Value} {w0 w : ax_W} {Q : Outcome → ax_W → Prop} {M : ax_M} {s : mo_S} {v : Nat → Int} {L Z m : Nat} {x : Int}
theorem c_put21 (hM : ax_prog[z]? = some M) (he : M.1[pc]? = some (some (.putfield idx, l, 2, 1, u3))) (hp : pc + l = p) (hC : CW w0 w s v L Z) (hm : m < 7) (kk : ∀ w1, CW w0 w1 (up s 2 m x) v L Z → fin xs fr lo z p ls st w1 Q) : fin xs fr lo z pc ls (.int (jI x) :: .ref (2 + 2 * m) :: st) w Q := by
  subst hp
  refine fi_put hM he (ks := [2, 0, 0]) rfl rfl rfl (C_mat hC hm) (by simp) (kk _ ?_)
  have := C_setM (s' := up s 2 m x) hC hm (fun k h2 h3 => up_ne _ h2 _ _) (fun j hj hne => by rw [up_same, up1_ne _ (by omega)]) (fun j hj hne => by rw [up_ne _ (by decide)])
  rw [up_same, up1_same, up_ne _ (by decide)] at this
  exact this
theorem c_put22 (hM : ax_prog[z]? = some M) (he : M.1[pc]? = some (some (.putfield idx, l, 2, 2, u3))) (hp : pc + l = p) (hC : CW w0 w s v L Z) (hm : m < 7) (kk : ∀ w1, CW w0 w1 (up s 3 m x) v L Z → fin xs fr lo z p ls st w1 Q) : fin xs fr lo z pc ls (.int (jI x) :: .ref (2 + 2 * m) :: st) w Q := by
  subst hp
  refine fi_put hM he (ks := [2, 0, 0]) rfl rfl rfl (C_mat hC hm) (by simp) (kk _ ?_)
  have := C_setM (s' := up s 3 m x) hC hm (fun k h2 h3 => up_ne _ h3 _ _) (fun j hj hne => by rw [up_ne _ (by decide)]) (fun j hj hne => by rw [up_same, up1_ne _ (by omega)])
  rw [up_same, up1_same, up_ne _ (by decide)] at this
  exact this
theorem m_ld {i : Int} (hM : ax_prog[z]? = some M) (he : M.1[pc]? = some (some (.laload, l, u1, u2, u3))) (hp : pc + l = p) (hC : CW w0 w s v L Z) (hm : m < 7) (h0 : 0 ≤ i) (h1 : i < 36) (kk : fin xs fr lo z p ls (.long (jL (s 1 (36 * m + i))) :: st) w Q) : fin xs fr lo z pc ls (.int (jI i) :: .ref (3 + 2 * m) :: st) w Q := by
  subst hp
  exact fi_lald hM he (C_num hC hm) (jI_nn h0 (by omega)) (by rw [jI_nat h0 (by omega)]; exact aL_get h0 h1) kk
theorem m_st {i y : Int} (hM : ax_prog[z]? = some M) (he : M.1[pc]? = some (some (.lastore, l, u1, u2, u3))) (hp : pc + l = p) (hC : CW w0 w s v L Z) (hm : m < 7) (h0 : 0 ≤ i) (h1 : i < 36) (kk : ∀ w1, CW w0 w1 (up s 1 (36 * m + i) y) v L Z → fin xs fr lo z p ls st w1 Q) : fin xs fr lo z pc ls (.long (jL y) :: .int (jI i) :: .ref (3 + 2 * m) :: st) w Q := by
  subst hp
  refine fi_last hM he (C_num hC hm) (jI_nn h0 (by omega)) (by rw [jI_nat h0 (by omega), aL_len]; omega) ?_
  rw [jI_nat h0 (by omega), aL_set h0]
  refine kk _ (C_setN hC hm (fun k h1 => up_ne _ h1 _ _) (fun j hj hne i' i0 i1 => by rw [up_same, up1_ne _ (by omega)]) (fun i' i0 i1 => ?_))
  rw [up_same]
  unfold up1
  by_cases e : i' = i
  · rw [if_pos e, if_pos (by omega)]
  · rw [if_neg e, if_neg (by omega)]
/-- sides of a matrix -/
def dimC (s : mo_S) (m : Nat) : Prop := 1 ≤ s 2 m ∧ s 2 m ≤ 6 ∧ 1 ≤ s 3 m ∧ s 3 m ≤ 6
theorem ma_has {i j : Int} (hC : CW w0 w s v L Z) (hm : m < 7) (hd : dimC s m) (i0 : -2147483648 ≤ i) (i1 : i < 2147483648) (j0 : -2147483648 ≤ j) (j1 : j < 2147483648) : fin xs fr lo 27 0 (ax_ent [.ref (2 + 2 * m), .int (jI i), .int (jI j)] 3) [] w (Same (.int (jI (if (0 ≤ i ∧ i < s 2 m) ∧ 0 ≤ j ∧ j < s 3 m then 1 else 0))) w) := by
  obtain ⟨d1, d2, d3, d4⟩ := hd
  by_cases h1 : 0 ≤ i
  · by_cases h2 : i < s 2 m
    · by_cases h3 : 0 ≤ j
      · by_cases h4 : j < s 3 m
        · rw [if_pos (by omega)]
          refine fi_step (pc' := 1) m_Ma_has rfl rfl ?_
          refine s_if_lt (p := 4) m_Ma_has rfl rfl (by omega) (by omega) (fun hbr => False.elim (by omega)) (fun hbr => ?_)
          refine fi_step (pc' := 5) m_Ma_has rfl rfl ?_
          refine fi_step (pc' := 6) m_Ma_has rfl rfl ?_
          refine k_get (p := 9) m_Ma_has rfl rfl (by first | exact C_print hC | exact C_minors hC | exact C_stairs hC | exact (CW_cst hC).2.1 | exact C_mat hC (by omega) | assumption) rfl ?_
          refine s_ic_ge (p := 12) m_Ma_has rfl rfl (by omega) (by omega) (by omega) (by omega) (fun hbr => False.elim (by omega)) (fun hbr => ?_)
          refine fi_step (pc' := 13) m_Ma_has rfl rfl ?_
          refine s_if_lt (p := 16) m_Ma_has rfl rfl (by omega) (by omega) (fun hbr => False.elim (by omega)) (fun hbr => ?_)
          refine fi_step (pc' := 17) m_Ma_has rfl rfl ?_
          refine fi_step (pc' := 18) m_Ma_has rfl rfl ?_
          refine k_get (p := 21) m_Ma_has rfl rfl (by first | exact C_print hC | exact C_minors hC | exact C_stairs hC | exact (CW_cst hC).2.1 | exact C_mat hC (by omega) | assumption) rfl ?_
          refine s_ic_ge (p := 24) m_Ma_has rfl rfl (by omega) (by omega) (by omega) (by omega) (fun hbr => False.elim (by omega)) (fun hbr => ?_)
          refine fi_step (pc' := 25) m_Ma_has rfl rfl ?_
          refine fi_step (pc' := 29) m_Ma_has rfl rfl ?_
          exact s_retb m_Ma_has rfl rfl (by omega) (by first | exact Or.inl rfl | exact Or.inr rfl | omega)
        · rw [if_neg (by omega)]
          refine fi_step (pc' := 1) m_Ma_has rfl rfl ?_
          refine s_if_lt (p := 4) m_Ma_has rfl rfl (by omega) (by omega) (fun hbr => False.elim (by omega)) (fun hbr => ?_)
          refine fi_step (pc' := 5) m_Ma_has rfl rfl ?_
          refine fi_step (pc' := 6) m_Ma_has rfl rfl ?_
          refine k_get (p := 9) m_Ma_has rfl rfl (by first | exact C_print hC | exact C_minors hC | exact C_stairs hC | exact (CW_cst hC).2.1 | exact C_mat hC (by omega) | assumption) rfl ?_
          refine s_ic_ge (p := 12) m_Ma_has rfl rfl (by omega) (by omega) (by omega) (by omega) (fun hbr => False.elim (by omega)) (fun hbr => ?_)
          refine fi_step (pc' := 13) m_Ma_has rfl rfl ?_
          refine s_if_lt (p := 16) m_Ma_has rfl rfl (by omega) (by omega) (fun hbr => False.elim (by omega)) (fun hbr => ?_)
          refine fi_step (pc' := 17) m_Ma_has rfl rfl ?_
          refine fi_step (pc' := 18) m_Ma_has rfl rfl ?_
          refine k_get (p := 21) m_Ma_has rfl rfl (by first | exact C_print hC | exact C_minors hC | exact C_stairs hC | exact (CW_cst hC).2.1 | exact C_mat hC (by omega) | assumption) rfl ?_
          refine s_ic_ge (p := 24) m_Ma_has rfl rfl (by omega) (by omega) (by omega) (by omega) (fun hbr => ?_) (fun hbr => False.elim (by omega))
          refine fi_step (pc' := 29) m_Ma_has rfl rfl ?_
          exact s_retb m_Ma_has rfl rfl (by omega) (by first | exact Or.inl rfl | exact Or.inr rfl | omega)
      · rw [if_neg (by omega)]
        refine fi_step (pc' := 1) m_Ma_has rfl rfl ?_
        refine s_if_lt (p := 4) m_Ma_has rfl rfl (by omega) (by omega) (fun hbr => False.elim (by omega)) (fun hbr => ?_)
        refine fi_step (pc' := 5) m_Ma_has rfl rfl ?_
        refine fi_step (pc' := 6) m_Ma_has rfl rfl ?_
        refine k_get (p := 9) m_Ma_has rfl rfl (by first | exact C_print hC | exact C_minors hC | exact C_stairs hC | exact (CW_cst hC).2.1 | exact C_mat hC (by omega) | assumption) rfl ?_
        refine s_ic_ge (p := 12) m_Ma_has rfl rfl (by omega) (by omega) (by omega) (by omega) (fun hbr => False.elim (by omega)) (fun hbr => ?_)
        refine fi_step (pc' := 13) m_Ma_has rfl rfl ?_
        refine s_if_lt (p := 16) m_Ma_has rfl rfl (by omega) (by omega) (fun hbr => ?_) (fun hbr => False.elim (by omega))
        refine fi_step (pc' := 29) m_Ma_has rfl rfl ?_
        exact s_retb m_Ma_has rfl rfl (by omega) (by first | exact Or.inl rfl | exact Or.inr rfl | omega)
    · rw [if_neg (by omega)]
      refine fi_step (pc' := 1) m_Ma_has rfl rfl ?_
      refine s_if_lt (p := 4) m_Ma_has rfl rfl (by omega) (by omega) (fun hbr => False.elim (by omega)) (fun hbr => ?_)
      refine fi_step (pc' := 5) m_Ma_has rfl rfl ?_
      refine fi_step (pc' := 6) m_Ma_has rfl rfl ?_
      refine k_get (p := 9) m_Ma_has rfl rfl (by first | exact C_print hC | exact C_minors hC | exact C_stairs hC | exact (CW_cst hC).2.1 | exact C_mat hC (by omega) | assumption) rfl ?_
      refine s_ic_ge (p := 12) m_Ma_has rfl rfl (by omega) (by omega) (by omega) (by omega) (fun hbr => ?_) (fun hbr => False.elim (by omega))
      refine fi_step (pc' := 29) m_Ma_has rfl rfl ?_
      exact s_retb m_Ma_has rfl rfl (by omega) (by first | exact Or.inl rfl | exact Or.inr rfl | omega)
  · rw [if_neg (by omega)]
    refine fi_step (pc' := 1) m_Ma_has rfl rfl ?_
    refine s_if_lt (p := 4) m_Ma_has rfl rfl (by omega) (by omega) (fun hbr => ?_) (fun hbr => False.elim (by omega))
    refine fi_step (pc' := 29) m_Ma_has rfl rfl ?_
    exact s_retb m_Ma_has rfl rfl (by omega) (by first | exact Or.inl rfl | exact Or.inr rfl | omega)
theorem ma_lesserSide (hC : CW w0 w s v L Z) (hm : m < 7) (hd : dimC s m) (hfr : 1 ≤ fr) (hlo : 30 ≤ lo) : fin xs fr lo 93 0 (ax_ent [.ref (2 + 2 * m)] 1) [] w (Same (.int (jI (if s 2 m ≤ s 3 m then s 2 m else s 3 m))) w) := by
  obtain ⟨d1, d2, d3, d4⟩ := hd
  refine fi_step (pc' := 1) m_Ma_lesserSide rfl rfl ?_
  refine k_get (p := 4) m_Ma_lesserSide rfl rfl (by first | exact C_print hC | exact C_minors hC | exact C_stairs hC | exact (CW_cst hC).2.1 | exact C_mat hC (by omega) | assumption) rfl ?_
  refine fi_step (pc' := 5) m_Ma_lesserSide rfl rfl ?_
  refine k_get (p := 8) m_Ma_lesserSide rfl rfl (by first | exact C_print hC | exact C_minors hC | exact C_stairs hC | exact (CW_cst hC).2.1 | exact C_mat hC (by omega) | assumption) rfl ?_
  refine c_2 (p := 11) m_Ma_lesserSide rfl inv_s (by decide) m_Mt_min rfl rfl (by omega) (by omega) (Nat.le_of_ble_eq_true rfl) (Nat.le_of_ble_eq_true rfl) rfl (h_min (by omega) (by omega) (by omega) (by omega)) ?_
  exact s_reti m_Ma_lesserSide rfl rfl (by rfl)
theorem ma_number {i j : Int} (hC : CW w0 w s v L Z) (hm : m < 7) (hd : dimC s m) (i0 : 0 ≤ i) (i1 : i < s 2 m) (j0 : 0 ≤ j) (j1 : j < s 3 m) (hfr : 1 ≤ fr) (hlo : 30 ≤ lo) : fin xs fr lo 31 0 (ax_ent [.ref (2 + 2 * m), .int (jI i), .int (jI j)] 3) [] w (Same (.long (jL (s 1 (36 * m + (6 * i + j))))) w) := by
  have hh := ma_has (xs := xs) (fr := fr - 1) (lo := lo - 22) (i := i) (j := j) hC hm hd (by omega) (by have := hd; unfold dimC at this; omega) (by omega) (by have := hd; unfold dimC at this; omega)
  obtain ⟨d1, d2, d3, d4⟩ := hd
  rw [if_pos (by omega)] at hh
  refine fi_step (pc' := 1) m_Ma_number rfl rfl ?_
  refine fi_step (pc' := 2) m_Ma_number rfl rfl ?_
  refine fi_step (pc' := 3) m_Ma_number rfl rfl ?_
  refine c_3 (p := 6) m_Ma_number rfl inv_v (by decide) m_Ma_has rfl rfl (by omega) (by omega) (Nat.le_of_ble_eq_true rfl) (Nat.le_of_ble_eq_true rfl) (C_rcvM hC (by omega) _) hh ?_
  refine s_if_eq (p := 9) m_Ma_number rfl rfl (by omega) (by omega) (fun hbr => False.elim (by omega)) (fun hbr => ?_)
  refine fi_step (pc' := 10) m_Ma_number rfl rfl ?_
  refine k_get (p := 13) m_Ma_number rfl rfl (by first | exact C_print hC | exact C_minors hC | exact C_stairs hC | exact (CW_cst hC).2.1 | exact C_mat hC (by omega) | assumption) rfl ?_
  refine fi_step (pc' := 14) m_Ma_number rfl rfl ?_
  refine s_bipush (p := 16) m_Ma_number rfl rfl rfl ?_
  refine s_imul (p := 17) m_Ma_number rfl rfl ?_
  refine fi_step (pc' := 18) m_Ma_number rfl rfl ?_
  refine s_iadd (p := 19) m_Ma_number rfl rfl ?_
  refine m_ld (p := 20) m_Ma_number rfl rfl hC (by omega) (by omega) (by omega) ?_
  refine fi_step (pc' := 24) m_Ma_number rfl rfl ?_
  exact s_retl m_Ma_number rfl rfl (by rw [show i * 6 = 6 * i by omega])
theorem ma_write {i j y : Int} (hC : CW w0 w s v L Z) (hm : m < 7) (hd : dimC s m) (i0 : 0 ≤ i) (i1 : i < s 2 m) (j0 : 0 ≤ j) (j1 : j < s 3 m) (hfr : 1 ≤ fr) (hlo : 30 ≤ lo) : fin xs fr lo 28 0 (ax_ent [.ref (2 + 2 * m), .int (jI i), .int (jI j), .long (jL y)] 5) [] w (Ret fun u w' => u = none ∧ CW w0 w' (up s 1 (36 * m + (6 * i + j)) y) v L Z) := by
  have hh := ma_has (xs := xs) (fr := fr - 1) (lo := lo - 22) (i := i) (j := j) hC hm hd (by omega) (by have := hd; unfold dimC at this; omega) (by omega) (by have := hd; unfold dimC at this; omega)
  obtain ⟨d1, d2, d3, d4⟩ := hd
  rw [if_pos (by omega)] at hh
  refine fi_step (pc' := 1) m_Ma_write rfl rfl ?_
  refine fi_step (pc' := 2) m_Ma_write rfl rfl ?_
  refine fi_step (pc' := 3) m_Ma_write rfl rfl ?_
  refine c_3 (p := 6) m_Ma_write rfl inv_v (by decide) m_Ma_has rfl rfl (by omega) (by omega) (Nat.le_of_ble_eq_true rfl) (Nat.le_of_ble_eq_true rfl) (C_rcvM hC (by omega) _) hh ?_
  refine s_if_eq (p := 9) m_Ma_write rfl rfl (by omega) (by omega) (fun hbr => False.elim (by omega)) (fun hbr => ?_)
  refine fi_step (pc' := 10) m_Ma_write rfl rfl ?_
  refine k_get (p := 13) m_Ma_write rfl rfl (by first | exact C_print hC | exact C_minors hC | exact C_stairs hC | exact (CW_cst hC).2.1 | exact C_mat hC (by omega) | assumption) rfl ?_
  refine fi_step (pc' := 14) m_Ma_write rfl rfl ?_
  refine s_bipush (p := 16) m_Ma_write rfl rfl rfl ?_
  refine s_imul (p := 17) m_Ma_write rfl rfl ?_
  refine fi_step (pc' := 18) m_Ma_write rfl rfl ?_
  refine s_iadd (p := 19) m_Ma_write rfl rfl ?_
  refine fi_step (pc' := 20) m_Ma_write rfl rfl ?_
  refine m_st (p := 21) m_Ma_write rfl rfl hC (by omega) (by omega) (by omega) (fun w hC => ?_)
  refine p_ret m_Ma_write rfl rfl ?_
  rw [show i * 6 = 6 * i by omega] at hC
  exact ⟨rfl, hC⟩
/-- zeros in matrix m, so many -/
def zrN (f : Int → Int) (m : Nat) (k : Int) : Int → Int := fun x => if 36 * (m : Int) ≤ x ∧ x < 36 * m + k then 0 else f x
def up1f (s : mo_S) (f : Int → Int) : mo_S := fun k => if k = 1 then f else s k
theorem fillJ_loop (hm : m < 7) : ∀ (n : Nat) (k : Int) (w : ax_W), k + n = 36 → 0 ≤ k → CW w0 w (up1f s (zrN (s 1) m k)) v L Z → fin xs fr lo 23 6 [some (.ref (3 + 2 * m)), some (.long (jL 0)), none, some (.int (jI k)), some (.int (jI 36))] [] w (Ret fun u w' => u = none ∧ CW w0 w' (up1f s (zrN (s 1) m 36)) v L Z) := by
  intro n
  induction n with
  | zero =>
    intro k w hk k0 hC
    obtain rfl : k = 36 := by omega
    refine fi_step (pc' := 7) m_Ar_fillJ rfl rfl ?_
    refine fi_step (pc' := 9) m_Ar_fillJ rfl rfl ?_
    refine s_ic_ge (p := 12) m_Ar_fillJ rfl rfl (by omega) (by omega) (by omega) (by omega) (fun hbr => ?_) (fun hbr => False.elim (by omega))
    refine p_ret m_Ar_fillJ rfl rfl ?_
    exact ⟨rfl, hC⟩
  | succ n ih =>
    intro k w hk k0 hC
    refine fi_step (pc' := 7) m_Ar_fillJ rfl rfl ?_
    refine fi_step (pc' := 9) m_Ar_fillJ rfl rfl ?_
    refine s_ic_ge (p := 12) m_Ar_fillJ rfl rfl (by omega) (by omega) (by omega) (by omega) (fun hbr => False.elim (by omega)) (fun hbr => ?_)
    refine fi_step (pc' := 13) m_Ar_fillJ rfl rfl ?_
    refine fi_step (pc' := 14) m_Ar_fillJ rfl rfl ?_
    refine fi_step (pc' := 15) m_Ar_fillJ rfl rfl ?_
    refine m_st (p := 16) m_Ar_fillJ rfl rfl hC (by omega) (by omega) (by omega) (fun w hC => ?_)
    refine s_iinc (p := 19) m_Ar_fillJ rfl rfl rfl ?_
    refine fi_step (pc' := 6) m_Ar_fillJ rfl rfl ?_
    refine ih (k + 1) w (by omega) (by omega) ?_
    refine CW_congr hC ?_
    funext a
    by_cases e : a = 1
    · subst e
      rw [up_same]
      unfold up1f
      rw [if_pos rfl, if_pos rfl]
      funext y
      by_cases ey : y = 36 * (m : Int) + k
      · subst ey; rw [up1_same]; unfold zrN; rw [if_pos (by omega)]
      · rw [up1_ne _ ey]; unfold zrN
        by_cases h : 36 * (m : Int) ≤ y ∧ y < 36 * m + (k + 1)
        · rw [if_pos h, if_pos (by omega)]
        · rw [if_neg h, if_neg (by omega)]
    · rw [up_ne _ e]; unfold up1f; rw [if_neg e, if_neg e]
theorem ar_fillJ (hC : CW w0 w s v L Z) (hm : m < 7) : fin xs fr lo 23 0 (ax_ent [.ref (3 + 2 * m), .long (jL 0)] 5) [] w (Ret fun u w' => u = none ∧ CW w0 w' (up1f s (zrN (s 1) m 36)) v L Z) := by
  refine fi_step (pc' := 1) m_Ar_fillJ rfl rfl ?_
  refine fi_step (pc' := 2) m_Ar_fillJ rfl rfl ?_
  refine fi_step (pc' := 3) m_Ar_fillJ rfl rfl ?_
  refine fi_alen m_Ar_fillJ rfl (C_num hC hm) (by decide) ?_
  rw [aL_len, show (36 : Nat).toInt32 = jI 36 from Int32.ofInt_eq_ofNat.symm]
  refine fi_step (pc' := 6) m_Ar_fillJ rfl rfl ?_
  refine fillJ_loop hm 36 0 w (by omega) (by omega) (CW_congr hC ?_)
  funext a
  unfold up1f
  by_cases e : a = 1
  · subst e; rw [if_pos rfl]; funext y; unfold zrN; rw [if_neg (by omega)]
  · rw [if_neg e]
theorem ma_reset {R C : Int} (hC : CW w0 w s v L Z) (hm : m < 7) (hfr : 1 ≤ fr) (hlo : 30 ≤ lo) : fin xs fr lo 22 0 (ax_ent [.ref (2 + 2 * m), .int (jI R), .int (jI C)] 3) [] w (Ret fun u w' => u = none ∧ CW w0 w' (gvM s m R C (fun _ _ => 0)) v L Z) := by
  refine fi_step (pc' := 1) m_Ma_reset rfl rfl ?_
  refine fi_step (pc' := 2) m_Ma_reset rfl rfl ?_
  refine c_put21 (p := 5) m_Ma_reset rfl rfl hC (by omega) (fun w hC => ?_)
  refine fi_step (pc' := 6) m_Ma_reset rfl rfl ?_
  refine fi_step (pc' := 7) m_Ma_reset rfl rfl ?_
  refine c_put22 (p := 10) m_Ma_reset rfl rfl hC (by omega) (fun w hC => ?_)
  refine fi_step (pc' := 11) m_Ma_reset rfl rfl ?_
  refine k_get (p := 14) m_Ma_reset rfl rfl (by first | exact C_print hC | exact C_minors hC | exact C_stairs hC | exact (CW_cst hC).2.1 | exact C_mat hC (by omega) | assumption) rfl ?_
  refine s_lconst (p := 15) (v := 0) m_Ma_reset rfl rfl rfl ?_
  refine g_2 (p := 18) m_Ma_reset rfl inv_s (by decide) m_Ar_fillJ rfl rfl (by omega) (by omega) (Nat.le_of_ble_eq_true rfl) (Nat.le_of_ble_eq_true rfl) rfl (ar_fillJ hC hm) (fun v w hP => ?_)
  obtain ⟨rfl, hC⟩ := hP
  refine p_ret m_Ma_reset rfl rfl ?_
  refine ⟨rfl, CW_congr hC (mo_ext ?_ ?_ ?_ (fun k h1 h2 h3 => ?_))⟩
  · rw [gvM_1]; unfold up1f; rw [if_pos rfl]
    funext y
    rw [up_ne _ (by decide), up_ne _ (by decide)]
    unfold newN zrN
    split
    · split <;> rfl
    · rfl
  · rw [gvM_2]; unfold up1f; rw [if_neg (by decide), up_ne _ (by decide), up_same]
  · rw [gvM_3]; unfold up1f; rw [if_neg (by decide), up_same, up_ne _ (by decide)]
  · rw [gvM_o _ _ _ _ _ h1 h2 h3]; unfold up1f; rw [if_neg h1, up_ne _ h3, up_ne _ h2]
theorem aL_cpy {N : Nat} {g h : Int → Int} : (aL N h).take 0 ++ ((aL N g).drop 0).take N ++ (aL N h).drop (0 + N) = aL N g := by
  rw [List.take_zero, List.nil_append, List.drop_zero, Nat.zero_add, List.take_of_length_le (by rw [aL_len]; omega), List.drop_eq_nil_of_le (by rw [aL_len]; omega), List.append_nil]
theorem aL_is (cp k : Nat) (g : Int → Int) : (((aL cp g).drop 0).take k).all (ax_is 21) = true := by
  rw [List.all_eq_true]
  intro v hv
  have h1 := List.mem_of_mem_take hv
  have h2 := List.mem_of_mem_drop h1
  unfold aL at h2
  obtain ⟨j, _, rfl⟩ := List.mem_map.mp h2
  rfl
theorem m_cpy {a e : Nat} {g h : Int → Int} {en : ax_E} (hM : ax_prog[z]? = some M) (he : M.1[pc]? = some (some en)) (hi : ax_isinv en.1) (hz : en.2.2.1 = 1002) (hp : pc + 3 = p) (hfr : 1 ≤ fr) (hlo : 100 ≤ lo) (hwt : ((.int (jI 36) :: .int (jI 0) :: .ref e :: .int (jI 0) :: .ref a :: st).map ax_wt).sum ≤ 18) (ha : w[a]? = some (21, aL 36 g)) (hb : w[e]? = some (21, aL 36 h)) (kk : fin xs fr lo z p ls st (w.set e (21, aL 36 g)) Q) : fin xs fr lo z pc ls (.int (jI 36) :: .int (jI 0) :: .ref e :: .int (jI 0) :: .ref a :: st) w Q := by
  subst hp
  refine fi_spc hM he hi (by omega) (st' := st) (w1 := w.set e (21, aL 36 g)) ?_ kk
  rw [hz]
  have n1 : ¬ (jI 36 < 0) := jI_nn (by omega) (by omega)
  have n0 : ¬ (jI 0 < 0) := jI_nn (by omega) (by omega)
  have e1 : (jI 36).toNatClampNeg = 36 := by rw [jI_nat (by omega) (by omega)]; rfl
  have e0 : (jI 0).toNatClampNeg = 0 := by rw [jI_nat (by omega) (by omega)]; rfl
  simp only [ax_spc]
  rw [if_neg (by omega), if_neg (by omega), if_neg (by omega)]
  simp only [ax_cpy, ha, hb, e1, e0, n1, n0, aL_len, aL_is]
  rw [aL_cpy]
  simp
theorem ma_become {a : Nat} {R C : Int} {g : Int → Int → Int} (hC : CW w0 w (gvM s a R C g) v L Z) (hm : m < 7) (ha : a < 7) (hne : a ≠ m) (hfr : 1 ≤ fr) (hlo : 100 ≤ lo) : fin xs fr lo 41 0 (ax_ent [.ref (2 + 2 * m), .ref (2 + 2 * a)] 2) [] w (Ret fun u w' => u = none ∧ CW w0 w' (gvM (gvM s a R C g) m R C g) v L Z) := by
  have e2 : gvM s a R C g 2 a = R := by rw [gvM_2, up1_same]
  have e3 : gvM s a R C g 3 a = C := by rw [gvM_3, up1_same]
  refine fi_step (pc' := 1) m_Ma_become rfl rfl ?_
  refine fi_step (pc' := 2) m_Ma_become rfl rfl ?_
  refine k_get (p := 5) m_Ma_become rfl rfl (by first | exact C_print hC | exact C_minors hC | exact C_stairs hC | exact (CW_cst hC).2.1 | exact C_mat hC (by omega) | assumption) rfl ?_
  rw [e2]
  refine c_put21 (p := 8) m_Ma_become rfl rfl hC (by omega) (fun w hC => ?_)
  refine fi_step (pc' := 9) m_Ma_become rfl rfl ?_
  refine fi_step (pc' := 10) m_Ma_become rfl rfl ?_
  refine k_get (p := 13) m_Ma_become rfl rfl (by first | exact C_print hC | exact C_minors hC | exact C_stairs hC | exact (CW_cst hC).2.1 | exact C_mat hC (by omega) | assumption) rfl ?_
  rw [up_ne _ (by decide), e3]
  refine c_put22 (p := 16) m_Ma_become rfl rfl hC (by omega) (fun w hC => ?_)
  refine fi_step (pc' := 17) m_Ma_become rfl rfl ?_
  refine k_get (p := 20) m_Ma_become rfl rfl (by first | exact C_print hC | exact C_minors hC | exact C_stairs hC | exact (CW_cst hC).2.1 | exact C_mat hC (by omega) | assumption) rfl ?_
  refine fi_step (pc' := 21) m_Ma_become rfl rfl ?_
  refine fi_step (pc' := 22) m_Ma_become rfl rfl ?_
  refine k_get (p := 25) m_Ma_become rfl rfl (by first | exact C_print hC | exact C_minors hC | exact C_stairs hC | exact (CW_cst hC).2.1 | exact C_mat hC (by omega) | assumption) rfl ?_
  refine fi_step (pc' := 26) m_Ma_become rfl rfl ?_
  refine fi_step (pc' := 27) m_Ma_become rfl rfl ?_
  refine k_get (p := 30) m_Ma_become rfl rfl (by first | exact C_print hC | exact C_minors hC | exact C_stairs hC | exact (CW_cst hC).2.1 | exact C_mat hC (by omega) | assumption) rfl ?_
  refine fi_alen m_Ma_become rfl (C_num hC hm) (by decide) ?_
  rw [aL_len, show (36 : Nat).toInt32 = jI 36 from Int32.ofInt_eq_ofNat.symm]
  refine m_cpy (p := 34) m_Ma_become rfl inv_s rfl rfl hfr hlo (Nat.le_of_ble_eq_true rfl) (C_num hC ha) (C_num hC hm) ?_
  refine p_ret m_Ma_become rfl rfl ?_
  refine ⟨rfl, C_setN (s' := gvM (gvM s a R C g) m R C g) hC hm (fun k h1 => ?_) (fun j hj hne i i0 i1 => ?_) (fun i i0 i1 => ?_)⟩
  · by_cases h3 : k = 3
    · subst h3; rw [gvM_3, up_same, up_ne _ (by decide)]
    · by_cases h2 : k = 2
      · subst h2; rw [gvM_2, up_ne _ (by decide), up_same]
      · rw [gvM_o _ _ _ _ _ h1 h2 h3, up_ne _ h3, up_ne _ h2]
  · rw [gvM_1, up_ne _ (by decide), up_ne _ (by decide), newN_out (by omega)]
  · rw [gvM_1, up_ne _ (by decide), up_ne _ (by decide), gvM_1]
    unfold newN
    rw [if_pos (show 36 * (a : Int) ≤ 36 * a + i ∧ 36 * (a : Int) + i < 36 * a + 36 by omega), if_pos (show 36 * (m : Int) ≤ 36 * m + i ∧ 36 * (m : Int) + i < 36 * m + 36 by omega), show 36 * (a : Int) + i - 36 * a = i by omega, show 36 * (m : Int) + i - 36 * m = i by omega]
end MA
