/-! THE CLASS: a number is printed -/
theorem dig_uniq {f g : Int → Int} : ∀ {k : Nat}, dgs f k → dgs g k → dw f k = dw g k → ∀ i : Nat, i < k → f i = g i
  | 0, _, _, _, i, hi => by omega
  | k + 1, hf, hg, he, i, hi => by
    rw [dw_succ, dw_succ] at he
    have a := dw_lt (f := f) (n := k) (fun i hi => hf i (by omega))
    have a0 := dw_nn (f := f) (n := k) (fun i hi => hf i (by omega))
    have b := dw_lt (f := g) (n := k) (fun i hi => hg i (by omega))
    have b0 := dw_nn (f := g) (n := k) (fun i hi => hg i (by omega))
    have p : (0 : Int) < 1000000000 ^ k := Int.pow_pos (by decide)
    obtain ⟨P, hP⟩ : ∃ P : Int, P = 1000000000 ^ k := ⟨_, rfl⟩
    rw [← hP] at he a b p
    have hk : f k = g k := by
      refine Classical.byContradiction (fun hne => ?_)
      by_cases h : f k < g k
      · have : (f k + 1) * P ≤ g k * P := Int.mul_le_mul_of_nonneg_right (by omega) (by omega)
        rw [Int.add_mul] at this; omega
      · have : (g k + 1) * P ≤ f k * P := Int.mul_le_mul_of_nonneg_right (by omega) (by omega)
        rw [Int.add_mul] at this; omega
    by_cases e : i = k
    · subst e; exact hk
    · exact dig_uniq (k := k) (fun i hi => hf i (by omega)) (fun i hi => hg i (by omega)) (by rw [hk] at he; omega) i (by omega)
theorem Wv_uniq {f g : Int → Int} {k m : Nat} {b q x : Int} (h : Wv f k b x) (h' : Wv g m q x) : k = m ∧ b = q ∧ ∀ i : Nat, i < k → f i = g i := by
  have n1 := Wv_neg h
  have n2 := Wv_neg h'
  have b1 := Wv_b h
  have b2 := Wv_b h'
  obtain ⟨_, e1, d1, v1⟩ := Wv_abs h
  obtain rfl := Int.ofNat.inj e1
  obtain ⟨_, e2, d2, v2⟩ := Wv_abs h'
  obtain rfl := Int.ofNat.inj e2
  have l1 := Wv_len h (k := m) (by rw [v2]; exact dw_lt d2)
  have l2 := Wv_len h' (k := k) (by rw [v1]; exact dw_lt d1)
  obtain rfl : k = m := by omega
  exact ⟨rfl, by omega, dig_uniq d1 d2 (by omega)⟩
/-- what is printed of P after its first figures -/
def outP (P : Nat) : List Int := if P = 0 then [] else decS P
theorem decS_push (P d : Nat) (hd : d < 10) (hP : 0 < P) : decS (10 * P + d) = decS P ++ [48 + (d : Int)] := by
  unfold decS
  rw [dd_step (10 * P + d), show (10 * P + d) / 10 = P by omega, show (10 * P + d) % 10 = d by omega, if_neg (by omega)]
  simp
theorem decS_one (d : Nat) (hd : d < 10) : decS d = [48 + (d : Int)] := by
  unfold decS
  rw [dd_step d, show d / 10 = 0 by omega, show d % 10 = d by omega, if_pos rfl]
  simp
theorem outP_push (P d : Nat) (hd : d < 10) : outP (10 * P + d) = if 10 * P + d = 0 then [] else outP P ++ [48 + (d : Int)] := by
  unfold outP
  by_cases h : 10 * P + d = 0
  · rw [if_pos h, if_pos h]
  · rw [if_neg h, if_neg h]
    by_cases hP : P = 0
    · subst hP; rw [if_pos rfl, Nat.mul_zero, Nat.zero_add, decS_one d hd]; rfl
    · rw [if_neg hP, decS_push P d hd (by omega)]
theorem outP_len {P k : Nat} (h : P < 10 ^ (k + 1)) : (outP P).length ≤ k + 1 := by
  unfold outP
  split
  · simp
  · unfold decS; rw [List.length_map, List.length_reverse]; exact dd_len h
theorem units9 : ∀ j : Fin 9, ax_units[(j : Nat)]? = some (jI (10 ^ (8 - (j : Nat)))) := by decide
theorem CW_TW {w0 w : ax_W} {s : mo_S} {v : Nat → Int} {L Z c : Nat} (hC : CW w0 w s v L Z) (hc : isWh c) : ∃ (d cap : Nat) (f : Int → Int) (k : Nat) (b : Int), TW w w c d cap f k b ∧ Wv f k b (v c) ∧ k ≤ cap ∧ cap < 2000 := by
  obtain ⟨w1, ⟨t, S, hv⟩, _⟩ := hC
  obtain ⟨c1, c2, c3, c4⟩ := hv c hc
  have hT := SW_TW S hc
  have q := capB_le c
  obtain ⟨k, hk⟩ := len_nn c1
  rw [hk] at c1 c2 hT
  exact ⟨_, _, _, k, _, hT, c1, by omega, by omega⟩
theorem u_bnd : ∀ {j : Nat}, j < 9 → 0 < 10 ^ (8 - j) ∧ 10 ^ (8 - j) ≤ 100000000 := by
  intro j hj
  have : ∀ j : Fin 9, 0 < 10 ^ (8 - (j : Nat)) ∧ 10 ^ (8 - (j : Nat)) ≤ 100000000 := by decide
  exact this ⟨j, hj⟩
section WHP
variable {xs : List Int32} {fr lo z pc p l' u1 u2 u3 : Nat} {ls : List (Option Value)} {st : List Value} {w0 w : ax_W} {Q : Outcome → ax_W → Prop} {M : ax_M} {s : mo_S} {v : Nat → Int} {L Z : Nat}
theorem u_ld {j : Nat} (hM : ax_prog[z]? = some M) (he : M.1[pc]? = some (some (.iaload, l', u1, u2, u3))) (hp : pc + l' = p) (hj : j < 9) (kk : fin xs fr lo z p ls (.int (jI ((10 ^ (8 - j) : Nat) : Int)) :: st) w Q) : fin xs fr lo z pc ls (.int (jI (j : Int)) :: .retAddr 1 :: st) w Q := by
  subst hp
  refine fi_hp hM he rfl rfl rfl (w1 := w) ?_ kk
  match j, hj with
  | 0, _ => rfl
  | 1, _ => rfl
  | 2, _ => rfl
  | 3, _ => rfl
  | 4, _ => rfl
  | 5, _ => rfl
  | 6, _ => rfl
  | 7, _ => rfl
  | 8, _ => rfl
/-- what is printed behind l, after a figure -/
theorem out_next {P d : Nat} {l : List Int} (hd : d < 10) (h : 10 * P + d ≠ 0) : l ++ outP P ++ [48 + (d : Int)] = l ++ outP (10 * P + d) := by
  rw [outP_push P d hd, if_neg h, List.append_assoc]
theorem in_loop {c i k D P0 q : Nat} {f : Int → Int} {b : Int} {l : List Int} {s0 : mo_S} (hc : isWh c) (hv : Wv f k b (v c)) (hi : i < k) (hD : f i = D) (hD9 : D < 1000000000) (hX : P0 * 1000000000 + D < 10 ^ (q + 1)) (hll : l.length + q + 1 < 256) (hfr : 1 ≤ fr) (hlo : 21 ≤ lo)
    (K : ∀ w s y7 y8, CW w0 w s v L Z → kpP s0 s → prC s (l ++ outP (P0 * 1000000000 + D)) → fin xs fr lo 89 115 [some (.ref 16), some (.ref c), some (.int (jI (if P0 * 1000000000 + D = 0 then 0 else 1))), some (.int (jI (i : Int))), some (.retAddr 1), some (.int (jI 9)), some (.int (jI ((9 : Nat) : Int))), y7, y8] [] w Q) :
    ∀ (m j : Nat), j + m = 9 → ∀ (w : ax_W) (s : mo_S) (y7 y8 : Option Value), CW w0 w s v L Z → kpP s0 s → prC s (l ++ outP (P0 * 10 ^ j + D / 10 ^ (9 - j))) → fin xs fr lo 89 52 [some (.ref 16), some (.ref c), some (.int (jI (if P0 * 10 ^ j + D / 10 ^ (9 - j) = 0 then 0 else 1))), some (.int (jI (i : Int))), some (.retAddr 1), some (.int (jI 9)), some (.int (jI (j : Int))), y7, y8] [] w Q := by
  intro m
  induction m with
  | zero =>
    intro j hj w s y7 y8 hC hk hp
    obtain rfl : j = 9 := by omega
    have e : P0 * 10 ^ 9 + D / 10 ^ (9 - 9) = P0 * 1000000000 + D := by simp
    rw [e] at hp ⊢
    refine fi_step (pc' := 54) m_Pr_whole rfl rfl ?_
    refine fi_step (pc' := 56) m_Pr_whole rfl rfl ?_
    refine s_ic_ge (p := 59) m_Pr_whole rfl rfl (by omega) (by omega) (by omega) (by omega) (fun hbr => ?_) (fun hbr => False.elim (by omega))
    exact K _ _ _ _ hC hk hp
  | succ m ih =>
    intro j hj w s y7 y8 hC hk hp
    obtain ⟨u, hu⟩ : ∃ u, u = 10 ^ (8 - j) := ⟨_, rfl⟩
    have hu0 : 0 < u ∧ u ≤ 100000000 := by subst hu; exact u_bnd (by omega)
    have e9 : 10 ^ (9 - j) = u * 10 := by rw [hu, show 9 - j = (8 - j) + 1 by omega, Nat.pow_succ]
    have e8 : 10 ^ (9 - (j + 1)) = u := by rw [hu, show 9 - (j + 1) = 8 - j by omega]
    obtain ⟨A, hA⟩ : ∃ A, A = D / u := ⟨_, rfl⟩
    have hA9 : A ≤ D := by rw [hA]; exact Nat.div_le_self _ _
    have eP : P0 * 10 ^ (j + 1) + D / 10 ^ (9 - (j + 1)) = 10 * (P0 * 10 ^ j + D / 10 ^ (9 - j)) + A % 10 := by
      rw [e8, e9, ← Nat.div_div_eq_div_mul, ← hA, Nat.pow_succ, ← Nat.mul_assoc]
      omega
    have hle : P0 * 10 ^ j + D / 10 ^ (9 - j) ≤ P0 * 1000000000 + D := by
      have a1 : P0 * 10 ^ j ≤ P0 * 1000000000 := Nat.mul_le_mul_left _ (Nat.pow_le_pow_right (n := 10) (by omega) (show j ≤ 9 by omega))
      have a2 : D / 10 ^ (9 - j) ≤ D := Nat.div_le_self _ _
      omega
    have hih := ih (j + 1) (by omega)
    rw [eP] at hih
    obtain ⟨P, hP⟩ : ∃ P, P = P0 * 10 ^ j + D / 10 ^ (9 - j) := ⟨_, rfl⟩
    rw [← hP] at hp hle hih ⊢
    have hlen : (l ++ outP P).length < 256 := by
      have := outP_len (P := P) (k := q) (by omega)
      rw [List.length_append]; omega
    refine fi_step (pc' := 54) m_Pr_whole rfl rfl ?_
    refine fi_step (pc' := 56) m_Pr_whole rfl rfl ?_
    refine s_ic_ge (p := 59) m_Pr_whole rfl rfl (by omega) (by omega) (by omega) (by omega) (fun hbr => False.elim (by omega)) (fun hbr => ?_)
    refine fi_step (pc' := 61) m_Pr_whole rfl rfl ?_
    refine fi_step (pc' := 63) m_Pr_whole rfl rfl ?_
    refine u_ld (p := 64) m_Pr_whole rfl rfl (by omega) ?_
    rw [← hu]
    obtain ⟨d, cap, f', k', b', hw, hv', hk', hcap⟩ := CW_TW hC hc
    obtain ⟨rfl, rfl, hf⟩ := Wv_uniq hv hv'
    refine fi_step (pc' := 66) m_Pr_whole rfl rfl ?_
    refine fi_step (pc' := 67) m_Pr_whole rfl rfl ?_
    first | refine t_get (p := 70) m_Pr_whole rfl rfl (by assumption) rfl ?_ | refine o_get (p := 70) m_Pr_whole rfl rfl (by assumption) (by assumption) rfl ?_
    refine fi_step (pc' := 71) m_Pr_whole rfl rfl ?_
    refine t_ld (p := 72) m_Pr_whole rfl rfl hw (by omega) (by omega) (by omega) ?_
    rw [← hf i hi, hD]
    refine fi_step (pc' := 74) m_Pr_whole rfl rfl ?_
    refine s_idiv (p := 75) m_Pr_whole rfl rfl (by omega) (by omega) (by omega) (by omega) ?_
    rw [show ((D : Int) / (u : Int)) = (A : Int) by rw [hA]; simp]
    refine s_bipush (p := 77) m_Pr_whole rfl rfl rfl ?_
    refine s_irem (p := 78) m_Pr_whole rfl rfl (by omega) (by omega) (by omega) (by omega) ?_
    refine fi_step (pc' := 80) m_Pr_whole rfl rfl ?_
    by_cases hz : 10 * P + A % 10 = 0
    · rw [if_pos (show P = 0 by omega)]
      refine fi_step (pc' := 81) m_Pr_whole rfl rfl ?_
      refine s_if_ne (p := 84) m_Pr_whole rfl rfl (by omega) (by omega) (fun hbr => False.elim (by omega)) (fun hbr => ?_)
      refine fi_step (pc' := 86) m_Pr_whole rfl rfl ?_
      refine s_if_eq (p := 89) m_Pr_whole rfl rfl (by omega) (by omega) (fun hbr => ?_) (fun hbr => False.elim (by omega))
      refine fi_step (pc' := 94) m_Pr_whole rfl rfl ?_
      refine fi_step (pc' := 95) m_Pr_whole rfl rfl ?_
      refine fi_step (pc' := 96) m_Pr_whole rfl rfl ?_
      refine s_if_eq (p := 99) m_Pr_whole rfl rfl (by omega) (by omega) (fun hbr => ?_) (fun hbr => False.elim (by omega))
      refine s_iinc (p := 112) m_Pr_whole rfl rfl rfl ?_
      refine fi_step (pc' := 52) m_Pr_whole rfl rfl ?_
      have hh := hih w s (some (.int (jI (u : Int)))) (some (.int (jI ((A : Int) % 10)))) hC hk
      rw [if_pos hz, show 10 * P + A % 10 = P by omega] at hh
      exact hh hp
    · have hfin : ∀ w s, CW w0 w s v L Z → kpP s0 s → prC s (l ++ outP P) → fin xs fr lo 89 95 [some (.ref 16), some (.ref c), some (.int (jI 1)), some (.int (jI (i : Int))), some (.retAddr 1), some (.int (jI 9)), some (.int (jI (j : Int))), some (.int (jI (u : Int))), some (.int (jI ((A : Int) % 10)))] [] w Q := by
        intro w s hC hk hp
        refine fi_step (pc' := 96) m_Pr_whole rfl rfl ?_
        refine s_if_eq (p := 99) m_Pr_whole rfl rfl (by omega) (by omega) (fun hbr => False.elim (by omega)) (fun hbr => ?_)
        refine fi_step (pc' := 100) m_Pr_whole rfl rfl ?_
        refine s_bipush (p := 102) m_Pr_whole rfl rfl rfl ?_
        refine fi_step (pc' := 104) m_Pr_whole rfl rfl ?_
        refine s_iadd (p := 105) m_Pr_whole rfl rfl ?_
        refine s_i2c (p := 106) m_Pr_whole rfl rfl (by omega) (by omega) ?_
        refine g_2 (p := 109) m_Pr_whole rfl inv_v (by decide) m_Pr_letter rfl rfl (by omega) (by omega) (Nat.le_of_ble_eq_true rfl) (Nat.le_of_ble_eq_true rfl) (C_rcv hC _) (p_letter hC hp hlen (by omega) (by omega)) (fun v w hP => ?_)
        obtain ⟨rfl, s1, hC, k1, hp⟩ := hP
        refine s_iinc (p := 112) m_Pr_whole rfl rfl rfl ?_
        refine fi_step (pc' := 52) m_Pr_whole rfl rfl ?_
        have hh := hih w s1 (some (.int (jI (u : Int)))) (some (.int (jI ((A : Int) % 10)))) hC (kpP_trans hk k1)
        rw [if_neg hz] at hh
        refine hh ?_
        rw [← out_next (by omega) hz]
        exact hp
      by_cases hP0 : P = 0
      · rw [if_pos hP0]
        refine fi_step (pc' := 81) m_Pr_whole rfl rfl ?_
        refine s_if_ne (p := 84) m_Pr_whole rfl rfl (by omega) (by omega) (fun hbr => False.elim (by omega)) (fun hbr => ?_)
        refine fi_step (pc' := 86) m_Pr_whole rfl rfl ?_
        refine s_if_eq (p := 89) m_Pr_whole rfl rfl (by omega) (by omega) (fun hbr => False.elim (by omega)) (fun hbr => ?_)
        refine fi_step (pc' := 90) m_Pr_whole rfl rfl ?_
        refine fi_step (pc' := 94) m_Pr_whole rfl rfl ?_
        refine fi_step (pc' := 95) m_Pr_whole rfl rfl ?_
        exact hfin w s hC hk hp
      · rw [if_neg hP0]
        refine fi_step (pc' := 81) m_Pr_whole rfl rfl ?_
        refine s_if_ne (p := 84) m_Pr_whole rfl rfl (by omega) (by omega) (fun hbr => ?_) (fun hbr => False.elim (by omega))
        refine fi_step (pc' := 90) m_Pr_whole rfl rfl ?_
        refine fi_step (pc' := 94) m_Pr_whole rfl rfl ?_
        refine fi_step (pc' := 95) m_Pr_whole rfl rfl ?_
        exact hfin w s hC hk hp
theorem out_loop {c k q X : Nat} {f : Int → Int} {b : Int} {l : List Int} {s0 : mo_S} (hc : isWh c) (hv : Wv f k b (v c)) (hX : X < 10 ^ (q + 1)) (hll : l.length + q + 1 < 256) (hfr : 1 ≤ fr) (hlo : 21 ≤ lo) (hk2 : k < 2000) :
    ∀ (r P : Nat), r ≤ k → (X : Int) = P * 1000000000 ^ r + dw f r → ∀ (w : ax_W) (s : mo_S) (y4 y5 y6 y7 y8 : Option Value), CW w0 w s v L Z → kpP s0 s → prC s (l ++ outP P) → fin xs fr lo 89 35 [some (.ref 16), some (.ref c), some (.int (jI (if P = 0 then 0 else 1))), some (.int (jI ((r : Int) - 1))), y4, y5, y6, y7, y8] [] w (Ret fun u w' => u = none ∧ ∃ s', CW w0 w' s' v L Z ∧ kpP s0 s' ∧ prC s' (l ++ outP X)) := by
  obtain ⟨_, e1, hd, _⟩ := Wv_abs hv
  obtain rfl := Int.ofNat.inj e1
  intro r
  induction r with
  | zero =>
    intro P hr he w s y4 y5 y6 y7 y8 hC hk hp
    obtain rfl : X = P := by
      have : dw f 0 = 0 := rfl
      rw [this] at he
      simp at he; omega
    refine fi_step (pc' := 36) m_Pr_whole rfl rfl ?_
    refine s_if_lt (p := 39) m_Pr_whole rfl rfl (by omega) (by omega) (fun hbr => ?_) (fun hbr => False.elim (by omega))
    refine p_ret m_Pr_whole rfl rfl ?_
    exact ⟨rfl, s, hC, hk, hp⟩
  | succ r ih =>
    intro P hr he w s y4 y5 y6 y7 y8 hC hk hp
    have hdr := hd r (by omega)
    obtain ⟨D, hD⟩ := Int.eq_ofNat_of_zero_le hdr.1
    have he' : (X : Int) = (P * 1000000000 + D : Nat) * 1000000000 ^ r + dw f r := by
      have h9 : ((P * 1000000000 + D : Nat) : Int) = (P : Int) * 1000000000 + D := by omega
      rw [h9, he, dw_succ, hD, Int.pow_succ]
      grind
    have hle : P * 1000000000 + D ≤ X := by
      have p1 : (1 : Int) ≤ 1000000000 ^ r := by have : (0 : Int) < 1000000000 ^ r := Int.pow_pos (by decide); omega
      have p2 := dw_nn (f := f) (n := r) (fun i hi => hd i (by omega))
      have p3 : ((P * 1000000000 + D : Nat) : Int) * 1 ≤ ((P * 1000000000 + D : Nat) : Int) * 1000000000 ^ r := Int.mul_le_mul_of_nonneg_left p1 (by omega)
      omega
    refine fi_step (pc' := 36) m_Pr_whole rfl rfl ?_
    refine s_if_lt (p := 39) m_Pr_whole rfl rfl (by omega) (by omega) (fun hbr => False.elim (by omega)) (fun hbr => ?_)
    refine fi_step (pc' := 42) m_Pr_whole rfl rfl ?_
    refine fi_step (pc' := 44) m_Pr_whole rfl rfl ?_
    refine fi_step (pc' := 46) m_Pr_whole rfl rfl ?_
    refine fi_step (pc' := 47) (st' := [.int (jI 9)]) m_Pr_whole rfl rfl ?_
    refine fi_step (pc' := 49) m_Pr_whole rfl rfl ?_
    refine fi_step (pc' := 50) m_Pr_whole rfl rfl ?_
    refine fi_step (pc' := 52) m_Pr_whole rfl rfl ?_
    have e0 : P * 10 ^ 0 + D / 10 ^ (9 - 0) = P := by rw [Nat.div_eq_of_lt (by omega)]; simp
    have hh := in_loop (xs := xs) (fr := fr) (lo := lo) (w0 := w0) (v := v) (L := L) (Z := Z) (P0 := P) (D := D) (i := r) (q := q) (l := l) (s0 := s0) (Q := Ret fun u w' => u = none ∧ ∃ s', CW w0 w' s' v L Z ∧ kpP s0 s' ∧ prC s' (l ++ outP X)) hc hv (by omega) hD (by omega) (by omega) hll hfr hlo (fun w s y7 y8 hC hk hp => ?_) 9 0 rfl w s y7 y8 hC hk
    · rw [e0] at hh
      have e1 : ((r + 1 : Nat) : Int) - 1 = (r : Int) := by omega
      rw [e1]
      exact hh hp
    · refine s_iinc (p := 118) m_Pr_whole rfl rfl rfl ?_
      refine fi_step (pc' := 35) m_Pr_whole rfl rfl ?_
      exact ih _ (by omega) he' w s _ _ _ _ _ hC hk hp
theorem p_whole {c q : Nat} {l : List Int} (hC : CW w0 w s v L Z) (hc : isWh c) (hp : prC s l) (hq : (v c).natAbs < 10 ^ (q + 1)) (hll : l.length + q + 2 < 256) (hfr : 1 ≤ fr) (hlo : 21 ≤ lo) : fin xs fr lo 89 0 (ax_ent [.ref 16, .ref c] 9) [] w (Ret fun u w' => u = none ∧ ∃ s', CW w0 w' s' v L Z ∧ kpP s s' ∧ prC s' (l ++ sayS (v c))) := by
  obtain ⟨d, cap, f, k, b, hw, hv, hkc, hcap⟩ := CW_TW hC hc
  have hz := Wv_zero hv
  have hn := Wv_neg hv
  have hb01 := Wv_b hv
  obtain ⟨_, e1, hd, hX⟩ := Wv_abs hv
  obtain rfl := Int.ofNat.inj e1
  have fin2 : ∀ (w : ax_W) (s1 : mo_S) (l' : List Int), CW w0 w s1 v L Z → kpP s s1 → prC s1 l' → l'.length ≤ l.length + 1 → l' ++ outP (v c).natAbs = l ++ sayS (v c) → fin xs fr lo 89 26 [some (.ref 16), some (.ref c), none, none, none, none, none, none, none] [] w (Ret fun u w' => u = none ∧ ∃ s', CW w0 w' s' v L Z ∧ kpP s s' ∧ prC s' (l ++ sayS (v c))) := by
    intro w s1 l' hC h1 hp hl2 he
    obtain ⟨d, cap, f', k', b', hw, hv', hk', hcap'⟩ := CW_TW hC hc
    obtain ⟨rfl, rfl, hf⟩ := Wv_uniq hv hv'
    refine fi_step (pc' := 27) m_Pr_whole rfl rfl ?_
    refine fi_step (pc' := 28) m_Pr_whole rfl rfl ?_
    refine fi_step (pc' := 29) m_Pr_whole rfl rfl ?_
    first | refine t_get (p := 32) m_Pr_whole rfl rfl (by assumption) rfl ?_ | refine o_get (p := 32) m_Pr_whole rfl rfl (by assumption) (by assumption) rfl ?_
    refine fi_step (pc' := 33) m_Pr_whole rfl rfl ?_
    refine s_isub (p := 34) m_Pr_whole rfl rfl ?_
    refine fi_step (pc' := 35) m_Pr_whole rfl rfl ?_
    rw [← he]
    exact out_loop (l := l') hc hv hq (by omega) hfr hlo (by omega) k 0 (Nat.le_refl _) (by rw [hX]; simp) w s1 _ _ _ _ _ hC h1 (by unfold outP; simpa using hp)
  have fin1 : ∀ (w : ax_W) (s1 : mo_S) (l' : List Int), CW w0 w s1 v L Z → kpP s s1 → prC s1 l' → l' = l ++ (if v c < 0 then [45] else []) → fin xs fr lo 89 13 [some (.ref 16), some (.ref c), none, none, none, none, none, none, none] [] w (Ret fun u w' => u = none ∧ ∃ s', CW w0 w' s' v L Z ∧ kpP s s' ∧ prC s' (l ++ sayS (v c))) := by
    intro w s1 l' hC h1 hp he
    obtain ⟨d, cap, f', k', b', hw, hv', hk', hcap'⟩ := CW_TW hC hc
    obtain ⟨rfl, rfl, hf⟩ := Wv_uniq hv hv'
    have hl1 : l'.length ≤ l.length + 1 := by rw [he, List.length_append]; split <;> simp
    refine fi_step (pc' := 14) m_Pr_whole rfl rfl ?_
    refine c_1 (p := 17) m_Pr_whole rfl inv_v (by decide) m_Wh_isZero rfl rfl (by omega) (by omega) (Nat.le_of_ble_eq_true rfl) (Nat.le_of_ble_eq_true rfl) (TW_rcv hw _) (h_isZero hw (by omega) (by omega)) ?_
    by_cases h0 : v c = 0
    · rw [if_pos (by omega)]
      refine s_if_eq (p := 20) m_Pr_whole rfl rfl (by omega) (by omega) (fun hbr => False.elim (by omega)) (fun hbr => ?_)
      refine fi_step (pc' := 21) m_Pr_whole rfl rfl ?_
      refine s_bipush (p := 23) m_Pr_whole rfl rfl rfl ?_
      refine g_2 (p := 26) m_Pr_whole rfl inv_v (by decide) m_Pr_letter rfl rfl (by omega) (by omega) (Nat.le_of_ble_eq_true rfl) (Nat.le_of_ble_eq_true rfl) (C_rcv hC _) (p_letter hC hp (by omega) (by omega) (by omega)) (fun v w hP => ?_)
      obtain ⟨rfl, s2, hC, k2, hp⟩ := hP
      rw [if_neg (by omega), List.append_nil] at he
      refine fin2 w s2 _ hC (kpP_trans h1 k2) hp (by rw [he]; simp) ?_
      have e2 : sayS 0 = [48] := by decide
      rw [h0, he, e2, show outP (Int.natAbs 0) = [] from rfl, List.append_nil]
    · rw [if_neg (by omega)]
      refine s_if_eq (p := 20) m_Pr_whole rfl rfl (by omega) (by omega) (fun hbr => ?_) (fun hbr => False.elim (by omega))
      refine fin2 w s1 _ hC h1 hp hl1 ?_
      rw [he, List.append_assoc]
      unfold sayS outP
      rw [if_neg (show ¬ (v c).natAbs = 0 by omega)]
  by_cases h0 : v c < 0
  · refine fi_step (pc' := 1) m_Pr_whole rfl rfl ?_
    first | refine t_get (p := 4) m_Pr_whole rfl rfl (by assumption) rfl ?_ | refine o_get (p := 4) m_Pr_whole rfl rfl (by assumption) (by assumption) rfl ?_
    refine s_if_eq (p := 7) m_Pr_whole rfl rfl (by omega) (by omega) (fun hbr => False.elim (by omega)) (fun hbr => ?_)
    refine fi_step (pc' := 8) m_Pr_whole rfl rfl ?_
    refine s_bipush (p := 10) m_Pr_whole rfl rfl rfl ?_
    refine g_2 (p := 13) m_Pr_whole rfl inv_v (by decide) m_Pr_letter rfl rfl (by omega) (by omega) (Nat.le_of_ble_eq_true rfl) (Nat.le_of_ble_eq_true rfl) (C_rcv hC _) (p_letter hC hp (by omega) (by omega) (by omega)) (fun v w hP => ?_)
    obtain ⟨rfl, s2, hC, k2, hp⟩ := hP
    exact fin1 w s2 _ hC k2 hp (by rw [if_pos h0])
  · refine fi_step (pc' := 1) m_Pr_whole rfl rfl ?_
    first | refine t_get (p := 4) m_Pr_whole rfl rfl (by assumption) rfl ?_ | refine o_get (p := 4) m_Pr_whole rfl rfl (by assumption) (by assumption) rfl ?_
    refine s_if_eq (p := 7) m_Pr_whole rfl rfl (by omega) (by omega) (fun hbr => ?_) (fun hbr => False.elim (by omega))
    exact fin1 w s _ hC ⟨fun _ _ _ => rfl, fun _ _ => rfl⟩ hp (by rw [if_neg h0, List.append_nil])
end WHP
