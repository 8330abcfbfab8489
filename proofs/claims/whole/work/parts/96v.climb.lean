/-! THE CLASS: the stairs are climbed -/
/-- the way of one row: the first k rows are new, the others are those of a Hermite form; the spare row is behind the first k leads -/
def mid (s : mo_S) (v : Nat → Int) (W n k T : Nat) (vs : List Vec) : Prop := (∀ i : Nat, i < n → (0 ≤ s 5 i ∧ s 5 i < W) ∧ 0 < rv s v i (s 5 i) ∧ (∀ j : Int, j < s 5 i → rv s v i j = 0) ∧ ∀ j : Int, W ≤ j → rv s v i j = 0) ∧ (∀ i k : Nat, i < k → k < n → s 5 i < s 5 k) ∧ (∀ i : Nat, i < k → ∀ j : Int, ((rv s v i j).natAbs : Int) < 1000000000 ^ T) ∧ (∀ i : Nat, k ≤ i → i < n → (∀ j : Int, ((rv s v i j).natAbs : Int) ≤ FBND) ∧ rv s v i (s 5 i) ≤ MBND) ∧ ((∀ i : Nat, i < k → ∀ j : Int, j ≤ s 5 i → rv s v n j = 0) ∧ (∀ j : Int, W ≤ j → rv s v n j = 0) ∧ ∀ j : Int, ((rv s v n j).natAbs : Int) < 1000000000 ^ T) ∧ spEq (fam (rv s v) (n + 1) 0) vs
theorem mid_KR {s : mo_S} {v : Nat → Int} {W n k T : Nat} {vs : List Vec} (h : mid s v W n k T vs) : KR s v W k n FBND := fun i a b => ⟨(h.1 i b).1, (h.1 i b).2.1, (h.1 i b).2.2.1, (h.1 i b).2.2.2, (h.2.2.2.1 i a b).1, fun m c d => h.2.1 i m c d⟩
/-- what stays in the state -/
def kst (s0 s : mo_S) : Prop := (∀ a, a ≠ 0 → a ≠ 5 → a ≠ 6 → s a = s0 a) ∧ ∀ i : Int, i ≠ 3 → i ≠ 4 → s 0 i = s0 0 i
/-- what stays of the numbers -/
def kpS (v v' : Nat → Int) : Prop := ∀ c, c ≠ 19 → c ≠ 233 → ¬ (238 ≤ c ∧ c < 418) → v' c = v c
theorem kpS_L {p : Nat} {v v' v'' : Nat → Int} (h : kpS v v') (hp : p < 7) (h' : kpL p v' v'') : kpS v v'' := fun c a b d => (h' c (fun j hj => by omega) a b).trans (h c a b d)
theorem kpS_2 {p q : Nat} {v v' v'' : Nat → Int} (h : kpS v v') (hp : p < 7) (hq : q < 7) (h' : kp2 p q v' v'') : kpS v v'' := fun c a b d => (h' c (fun j hj => by omega) a b).trans (h c a b d)
theorem prm_sw {s s1 : mo_S} {k n : Nat} (h : prm s) (hk : k < 7) (hn : n < 7) (hkn : k ≠ n) (ho : ∀ i : Int, i ≠ k → i ≠ n → s1 6 i = s 6 i) (hc : (s1 6 n = s 6 n ∧ s1 6 k = s 6 k) ∨ (s1 6 n = s 6 k ∧ s1 6 k = s 6 n)) : prm s1 := by
  have rk := h.1 k hk
  have rn := h.1 n hn
  have ikn := h.2 k n hk hn
  refine ⟨fun i hi => ?_, fun i j hi hj e => ?_⟩
  · have ri := h.1 i hi
    by_cases e1 : i = k
    · subst e1; omega
    · by_cases e2 : i = n
      · subst e2; omega
      · rw [ho i (by omega) (by omega)]; exact ri
  · have a1 := h.2 i j hi hj
    have a2 := h.2 i k hi hk
    have a3 := h.2 i n hi hn
    have a4 := h.2 k j hk hj
    have a5 := h.2 n j hn hj
    by_cases e1 : i = k
    · subst e1
      by_cases e3 : j = i
      · omega
      · by_cases e4 : j = n
        · subst e4; omega
        · rw [ho j (by omega) (by omega)] at e; omega
    · by_cases e2 : i = n
      · subst e2
        by_cases e3 : j = k
        · subst e3; omega
        · by_cases e4 : j = i
          · omega
          · rw [ho j (by omega) (by omega)] at e; omega
      · rw [ho i (by omega) (by omega)] at e
        by_cases e3 : j = k
        · subst e3; omega
        · by_cases e4 : j = n
          · subst e4; omega
          · rw [ho j (by omega) (by omega)] at e; omega
theorem prm_ps {s s' : mo_S} {k n ld : Nat} {p : Int} (h : prm s) (hk : k ≤ n) (hn : n < 7) (ep : s 6 n = p) (hs : kps s s' k n ld p) : prm s' := by
  obtain ⟨_, _, _, h1, h2, h3, h4⟩ := hs
  have old : ∀ i : Nat, i < 7 → ∃ i' : Nat, i' < 7 ∧ s' 6 i = s 6 i' ∧ ((i < k ∧ i' = i) ∨ (i = k ∧ i' = n) ∨ (k < i ∧ i ≤ n ∧ i' + 1 = i) ∨ (n < i ∧ i' = i)) := by
    intro i hi
    rcases Nat.lt_trichotomy i k with e | e | e
    · exact ⟨i, hi, (h1 i (by omega)).1, by omega⟩
    · subst e; exact ⟨n, hn, by rw [h2.1, ep], by omega⟩
    · by_cases e' : i ≤ n
      · refine ⟨i - 1, by omega, ?_, by omega⟩
        rw [(h3 i (by omega) (by omega)).1, show ((i - 1 : Nat) : Int) = (i : Int) - 1 by omega]
      · exact ⟨i, hi, h4 i (by omega), by omega⟩
  refine ⟨fun i hi => ?_, fun i j hi hj e => ?_⟩
  · obtain ⟨i', a, b, _⟩ := old i hi
    rw [b]; exact h.1 i' a
  · obtain ⟨i', a, b, c⟩ := old i hi
    obtain ⟨j', a', b', c'⟩ := old j hj
    rw [b, b'] at e
    have := h.2 i' j' a a' e
    omega
/-- rows that lie in other places stay -/
theorem rv_ne {s : mo_S} (h : prm s) {i j : Nat} (hi : i < 7) (hj : j < 7) (hne : i ≠ j) : (s 6 i).toNat ≠ (s 6 j).toNat := by
  have a := h.1 i hi
  have b := h.1 j hj
  intro e
  exact hne (h.2 i j hi hj (by omega))
theorem stl_W {s : mo_S} {v : Nat → Int} {f n : Nat} {x x' : Vec} (h : stl s v f n x x') {j : Int} (hz : ∀ i : Nat, f ≤ i → i < n → PR v (s 6 i).toNat j = 0) : x' j = x j := by
  have := sp_rel (f := fun z => z j) rfl (fun _ _ _ => rfl) (fun y hy => by
    obtain ⟨i, a, b, rfl⟩ := fam_mem.mp hy
    exact hz i a (by omega)) h.2.2
  have h' : x j - x' j = 0 := this
  omega
def bud : Nat → Nat
  | 0 => 0
  | r + 1 => bud r + 38 + 25 * r
theorem bud5 : ∀ r : Fin 6, bud (r : Nat) ≤ 440 := by decide
/-- a step of a row's way, seen from outside -/
theorem mid_step {s s1 : mo_S} {v v1 v2 v3 : Nat → Int} {W n k T c p q p' q' : Nat} {vs : List Vec} {X : Nat} (h : mid s v W n k T vs) (hpm : prm s) (hkn : k < n) (hn : n < 7) (hc : s 5 k = c) (ep : s 6 n = p) (eq : s 6 k = q) (hs : pSw s s1 k n) (ep' : s1 6 n = p') (eq' : s1 6 k = q') (hor : (p' = p ∧ q' = q) ∨ (p' = q ∧ q' = p)) (hk : kp2 p q v v1) (hm : PR v1 p' c = 0 ∧ 0 < PR v1 q' c) (hz : ∀ j : Int, j < c → PR v1 p' j = 0 ∧ PR v1 q' j = 0) (hzW : ∀ j : Int, W ≤ j → PR v1 p' j = 0 ∧ PR v1 q' j = 0) (hsp : spEq [PR v1 q', PR v1 p'] [PR v q, PR v p])
    (k2 : kpL q' v1 v2) (z2 : ∀ j : Int, ((PR v2 q' j).natAbs : Int) < 1000000000 ^ X) (s2 : stl s1 v1 (k + 1) n (PR v1 q') (PR v2 q')) (k3 : kpL p' v2 v3) (z3 : ∀ j : Int, ((PR v3 p' j).natAbs : Int) < 1000000000 ^ X) (s3 : stl s1 v2 (k + 1) n (PR v2 p') (PR v3 p')) (hX : T ≤ X) : mid s1 v3 W n (k + 1) X vs := by
  obtain ⟨m1, m2, m3, m4, ⟨m5, m6, m7⟩, m8⟩ := h
  have hpm1 : prm s1 := prm_sw hpm (by omega) hn (by omega) hs.2 (by rcases hor with ⟨a, b⟩ | ⟨a, b⟩ <;> subst a <;> subst b <;> omega)
  have e5 : s1 5 = s 5 := hs.1 5 (by decide)
  have hqp : q' ≠ p' := by
    have := hpm.2 n k hn (by omega)
    rcases hor with ⟨a, b⟩ | ⟨a, b⟩ <;> omega
  -- other rows stay
  have oth1 : ∀ i : Nat, i < 7 → i ≠ k → i ≠ n → rv s1 v1 i = rv s v i ∧ (s1 6 i).toNat ≠ p' ∧ (s1 6 i).toNat ≠ q' := by
    intro i hi h1 h2
    have r1 := rv_ne hpm hi hn h2
    have r2 := rv_ne hpm hi (show k < 7 by omega) h1
    rw [ep, Int.toNat_natCast] at r1
    rw [eq, Int.toNat_natCast] at r2
    have e := hs.2 i (by omega) (by omega)
    refine ⟨?_, by rw [e]; omega, by rw [e]; omega⟩
    unfold rv
    rw [e]
    exact kp2_PR hk r1 r2
  have oth2 : ∀ i : Nat, i < 7 → i ≠ k → i ≠ n → rv s1 v2 i = rv s1 v1 i ∧ rv s1 v3 i = rv s1 v1 i := by
    intro i hi h1 h2
    obtain ⟨_, a, b⟩ := oth1 i hi h1 h2
    have r2 : rv s1 v2 i = rv s1 v1 i := kpL_PR k2 b
    exact ⟨r2, (kpL_PR k3 a).trans r2⟩
  have oth : ∀ i : Nat, i < 7 → i ≠ k → i ≠ n → rv s1 v3 i = rv s v i := fun i hi h1 h2 => (oth2 i hi h1 h2).2.trans (oth1 i hi h1 h2).1
  have rk1 : rv s1 v1 k = PR v1 q' := by unfold rv; rw [eq', Int.toNat_natCast]
  have rk2 : rv s1 v2 k = PR v2 q' := by unfold rv; rw [eq', Int.toNat_natCast]
  have rk3 : rv s1 v3 k = PR v2 q' := by unfold rv; rw [eq', Int.toNat_natCast]; exact kpL_PR k3 hqp
  have rn1 : rv s1 v1 n = PR v1 p' := by unfold rv; rw [ep', Int.toNat_natCast]
  have rn2 : rv s1 v2 n = PR v1 p' := by unfold rv; rw [ep', Int.toNat_natCast]; exact kpL_PR k2 (by omega)
  have rn3 : rv s1 v3 n = PR v3 p' := by unfold rv; rw [ep', Int.toNat_natCast]
  have rp2 : PR v2 p' = PR v1 p' := kpL_PR k2 (by omega)
  have rq : rv s v k = PR v q := by unfold rv; rw [eq, Int.toNat_natCast]
  have rp : rv s v n = PR v p := by unfold rv; rw [ep, Int.toNat_natCast]
  have lt5 : ∀ i : Nat, k + 1 ≤ i → i < n → (c : Int) < s1 5 i := fun i a b => by rw [e5, ← hc]; exact m2 k i (by omega) b
  have q2 : ∀ j : Int, j ≤ c → PR v2 q' j = PR v1 q' j := fun j hj => s2.2.1 j (fun i a b => by have := lt5 i a b; omega)
  have p3 : ∀ j : Int, j ≤ c → PR v3 p' j = PR v1 p' j := fun j hj => by rw [s3.2.1 j (fun i a b => by have := lt5 i a b; omega), rp2]
  have zW1 : ∀ i : Nat, k + 1 ≤ i → i < n → ∀ j : Int, W ≤ j → PR v1 (s1 6 i).toNat j = 0 ∧ PR v2 (s1 6 i).toNat j = 0 := fun i a b j hj => by
    have o1 := oth1 i (by omega) (by omega) (by omega)
    have o2 := oth2 i (by omega) (by omega) (by omega)
    have z := (m1 i b).2.2.2 j hj
    rw [← o1.1] at z
    have z' := z
    rw [← o2.1] at z'
    exact ⟨z, z'⟩
  have pX : (1000000000 : Int) ^ T ≤ 1000000000 ^ X := pow_mono (by decide) hX
  refine ⟨fun i hi => ?_, fun i k hik hk => by rw [e5]; exact m2 i k hik hk, fun i hi j => ?_, fun i a b => ?_, ⟨fun i hi j hj => ?_, fun j hj => ?_, fun j => by rw [rn3]; exact z3 j⟩, ?_⟩
  · by_cases e : i = k
    · subst e
      rw [e5, rk3, hc]
      have r := (m1 i hi).1
      rw [hc] at r
      exact ⟨r, by rw [q2 c (by omega)]; exact hm.2, fun j hj => by rw [q2 j (by omega)]; exact (hz j hj).2, fun j hj => by rw [stl_W s2 (fun i a b => (zW1 i a b j hj).1)]; exact (hzW j hj).2⟩
    · rw [oth i (by omega) e (by omega), e5]; exact m1 i hi
  · by_cases e : i = k
    · subst e; rw [rk3]; exact z2 j
    · rw [oth i (by omega) e (by omega)]
      have := m3 i (by omega) j
      omega
  · rw [oth i (by omega) (by omega) (by omega), e5]; exact m4 i (by omega) b
  · rw [rn3]
    have hjc : j ≤ c := by
      rw [e5] at hj
      by_cases e : i = k
      · subst e; omega
      · have := m2 i k (by omega) hkn; omega
    rw [p3 j hjc]
    by_cases e : j = c
    · subst e; exact hm.1
    · exact (hz j (by omega)).1
  · rw [rn3, stl_W s3 (fun i a b => (zW1 i a b j hj).2), rp2]; exact (hzW j hj).1
  · have t1 : spEq (fam (rv s1 v1) (n + 1) 0) (fam (rv s v) (n + 1) 0) := by
      refine fam_pair (a := k) (b := n) (by omega) (by omega) (fun m hm h1 h2 => (oth1 m (by omega) h1 h2).1) ?_
      rw [rk1, rn1, rq, rp]; exact hsp
    have t2 : spEq (fam (rv s1 v2) (n + 1) 0) (fam (rv s1 v1) (n + 1) 0) := by
      refine fam_set (a := k) (by omega) (fun m hm h1 => ?_) (Lz := fam (fun i => PR v1 (s1 6 i).toNat) (n - (k + 1)) (k + 1)) (fun x hx => ?_) ?_
      · by_cases e : m = n
        · subst e; rw [rn2, rn1]
        · exact (oth2 m (by omega) h1 e).1
      · obtain ⟨i, a, b, rfl⟩ := fam_mem.mp hx
        exact ⟨i, by omega, by omega, rfl⟩
      · rw [rk1, rk2]; exact s2.2.2
    have t3 : spEq (fam (rv s1 v3) (n + 1) 0) (fam (rv s1 v2) (n + 1) 0) := by
      refine fam_set (a := n) (by omega) (fun m hm h1 => ?_) (Lz := fam (fun i => PR v2 (s1 6 i).toNat) (n - (k + 1)) (k + 1)) (fun x hx => ?_) ?_
      · by_cases e : m = k
        · subst e; rw [rk3, rk2]
        · exact (oth2 m (by omega) e h1).2.trans (oth2 m (by omega) e h1).1.symm
      · obtain ⟨i, a, b, rfl⟩ := fam_mem.mp hx
        exact ⟨i, by omega, by omega, rfl⟩
      · rw [rn2, rn3, ← rp2]; exact s3.2.2
    exact spEq_trans t3 (spEq_trans t2 (spEq_trans t1 m8))
section CLIMB
variable {xs : List Int32} {fr lo : Nat} {w0 w : ax_W} {s : mo_S} {v : Nat → Int} {L Z : Nat} {Q : Outcome → ax_W → Prop}
theorem climb_in {m H n W : Nat} {tn : Int} {y6 : Option Value} {s0 : mo_S} {v0 : Nat → Int} {vs : List Vec} (hfr : 7 ≤ fr) (hlo : 340 ≤ lo) (v27 : v0 27 = 1) (hn : n < 6) (W12 : W ≤ 12)
    (K : ∀ (w : ax_W) (s : mo_S) (v : Nat → Int) (k : Nat), CW w0 w s v L Z → kst s0 s → prm s → kpS v0 v → s 0 3 = n → s 0 4 = W → k ≤ n → mid s v W n k 465 vs → (k < n → ∀ ld, isLd (rv s v n) W ld → (ld : Int) < s 5 k) → fin xs fr lo 57 142 [some (.ref 232), some (.ref (2 + 2 * m)), some (.int (jI tn)), some (.int (jI (H : Int))), some (.int (jI (n : Int))), some (.int (jI (k : Int))), y6] [] w Q) :
    ∀ (r k T : Nat) (w : ax_W) (s : mo_S) (v : Nat → Int), k + r = n → CW w0 w s v L Z → kst s0 s → prm s → kpS v0 v → s 0 3 = n → s 0 4 = W → 25 ≤ T → T + bud r ≤ 465 → mid s v W n k T vs →
    fin xs fr lo 57 63 [some (.ref 232), some (.ref (2 + 2 * m)), some (.int (jI tn)), some (.int (jI (H : Int))), some (.int (jI (n : Int))), some (.int (jI (k : Int))), y6] [] w Q := by
  have wk : ∀ {s : mo_S} {v : Nat → Int} {k T : Nat}, mid s v W n k T vs → T ≤ 465 → mid s v W n k 465 vs := fun {s v k T} h hT => by
    have pX : (1000000000 : Int) ^ T ≤ 1000000000 ^ 465 := pow_mono (by decide) hT
    exact ⟨h.1, h.2.1, fun i hi j => Int.lt_of_lt_of_le (h.2.2.1 i hi j) pX, h.2.2.2.1, ⟨h.2.2.2.2.1.1, h.2.2.2.2.1.2.1, fun j => Int.lt_of_lt_of_le (h.2.2.2.2.1.2.2 j) pX⟩, h.2.2.2.2.2⟩
  intro r
  induction r with
  | zero =>
    intro k T w s v hk hC hs hpm hv h3 hW hT hb hm
    obtain rfl : k = n := by omega
    refine fi_step (pc' := 65) m_St_climb rfl rfl ?_
    refine fi_step (pc' := 66) m_St_climb rfl rfl ?_
    refine k_get (p := 69) m_St_climb rfl rfl (by first | exact C_print hC | exact C_minors hC | exact C_stairs hC | exact (CW_cst hC).2.1 | exact C_mat hC (by omega) | exact ((CW_cst hC).2.2.2.2.2.2 _ (by omega)).1 | assumption) rfl ?_
    refine s_ic_ge (p := 72) m_St_climb rfl rfl (by omega) (by omega) (by omega) (by omega) (fun hbr => ?_) (fun hbr => False.elim (by omega))
    exact K w s v k hC hs hpm hv h3 hW (Nat.le_refl _) (wk hm (by omega)) (fun h => by omega)
  | succ r ih =>
    intro k T w s v hk hC hs hpm hv h3 hW hT hb hm
    have hbr : bud (r + 1) = bud r + 38 + 25 * r := rfl
    obtain ⟨p, ep⟩ : ∃ p : Nat, s 6 n = p := ⟨(s 6 n).toNat, by have := hpm.1 n (by omega); omega⟩
    obtain ⟨q, eq⟩ : ∃ q : Nat, s 6 k = q := ⟨(s 6 k).toNat, by have := hpm.1 k (by omega); omega⟩
    obtain ⟨⟨c0, c1⟩, cpos, cz, czW⟩ := hm.1 k (by omega)
    obtain ⟨c, hc⟩ : ∃ c : Nat, s 5 k = c := ⟨(s 5 k).toNat, by omega⟩
    have hp : p < 7 := by have := hpm.1 n (by omega); omega
    have hq : q < 7 := by have := hpm.1 k (by omega); omega
    have hpq : p ≠ q := by have := hpm.2 n k (by omega) (by omega); omega
    have rq : rv s v k = PR v q := by unfold rv; rw [eq, Int.toNat_natCast]
    have rp : rv s v n = PR v p := by unfold rv; rw [ep, Int.toNat_natCast]
    have v27' : v 27 = 1 := by rw [hv 27 (by omega) (by omega) (by omega)]; exact v27
    rw [hc] at c0 c1 cpos cz
    rw [rq] at cpos cz czW
    refine fi_step (pc' := 65) m_St_climb rfl rfl ?_
    refine fi_step (pc' := 66) m_St_climb rfl rfl ?_
    refine k_get (p := 69) m_St_climb rfl rfl (by first | exact C_print hC | exact C_minors hC | exact C_stairs hC | exact (CW_cst hC).2.1 | exact C_mat hC (by omega) | exact ((CW_cst hC).2.2.2.2.2.2 _ (by omega)).1 | assumption) rfl ?_
    refine s_ic_ge (p := 72) m_St_climb rfl rfl (by omega) (by omega) (by omega) (by omega) (fun hbr => False.elim (by omega)) (fun hbr => ?_)
    refine fi_step (pc' := 73) m_St_climb rfl rfl ?_
    refine k_get (p := 76) m_St_climb rfl rfl (by first | exact C_print hC | exact C_minors hC | exact C_stairs hC | exact (CW_cst hC).2.1 | exact C_mat hC (by omega) | exact ((CW_cst hC).2.2.2.2.2.2 _ (by omega)).1 | assumption) rfl ?_
    refine fi_step (pc' := 78) m_St_climb rfl rfl ?_
    refine d_ldL (p := 79) m_St_climb rfl rfl hC (by omega) (by omega) ?_
    rw [hc]
    refine fi_step (pc' := 80) m_St_climb rfl rfl ?_
    refine k_get (p := 83) m_St_climb rfl rfl (by first | exact C_print hC | exact C_minors hC | exact C_stairs hC | exact (CW_cst hC).2.1 | exact C_mat hC (by omega) | exact ((CW_cst hC).2.2.2.2.2.2 _ (by omega)).1 | assumption) rfl ?_
    refine fi_step (pc' := 84) m_St_climb rfl rfl ?_
    refine k_get (p := 87) m_St_climb rfl rfl (by first | exact C_print hC | exact C_minors hC | exact C_stairs hC | exact (CW_cst hC).2.1 | exact C_mat hC (by omega) | exact ((CW_cst hC).2.2.2.2.2.2 _ (by omega)).1 | assumption) rfl ?_
    rw [h3]
    refine r_ldR (p := 88) m_St_climb rfl rfl hC (by omega) (by omega) ?_
    rw [ep, Int.toNat_natCast]
    refine fi_step (pc' := 89) m_St_climb rfl rfl ?_
    refine k_get (p := 92) m_St_climb rfl rfl (by first | exact C_print hC | exact C_minors hC | exact C_stairs hC | exact (CW_cst hC).2.1 | exact C_mat hC (by omega) | exact ((CW_cst hC).2.2.2.2.2.2 _ (by omega)).1 | assumption) rfl ?_
    rw [hW]
    refine g_2 (p := 95) m_St_climb rfl inv_v (by decide) m_Ro_lead rfl rfl (by omega) (by omega) (Nat.le_of_ble_eq_true rfl) (Nat.le_of_ble_eq_true rfl) (C_rcvR hC (by omega) _) (ro_lead (E := W) hC hp W12 (by omega) (by omega)) (fun v w hP => ?_)
    obtain ⟨rfl, ld, rfl, hld⟩ := hP
    have hldW := hld.1
    by_cases hge : (ld : Int) < c
    · refine s_ic_gt (p := 98) m_St_climb rfl rfl (by omega) (by omega) (by omega) (by omega) (fun hbr => ?_) (fun hbr => False.elim (by omega))
      refine K w s v k hC hs hpm hv h3 hW (by omega) (wk hm (by omega)) (fun _ ld' hld' => ?_)
      rw [rp] at hld'
      have : ld' = ld := by
        rcases Nat.lt_trichotomy ld' ld with e | e | e
        · exact absurd (hld.2.1 ld' (by omega) (by omega)) (hld'.2.2 (by omega))
        · exact e
        · exact absurd (hld'.2.1 ld (by omega) (by omega)) (hld.2.2 (by have := hld'.1; omega))
      omega
    have hzp : ∀ j : Int, j < c → PR v p j = 0 ∧ PR v q j = 0 := fun j hj => by
      refine ⟨?_, cz j hj⟩
      by_cases j0 : 0 ≤ j
      · exact hld.2.1 j (by omega) j0
      · exact PR_out v p (by omega)
    have hzpW : ∀ j : Int, W ≤ j → PR v p j = 0 ∧ PR v q j = 0 := fun j hj => ⟨by rw [← rp]; exact hm.2.2.2.2.1.2.1 j hj, czW j hj⟩
    have hold := hm.2.2.2.1 k (Nat.le_refl _) (by omega)
    rw [rq, hc] at hold
    have hF := FB_25
    have hxp : ∀ j : Int, ((PR v p j).natAbs : Int) < 1000000000 ^ T := fun j => by rw [← rp]; exact hm.2.2.2.2.1.2.2 j
    refine s_ic_gt (p := 98) m_St_climb rfl rfl (by omega) (by omega) (by omega) (by omega) (fun hbr => False.elim (by omega)) (fun hbr => ?_)
    refine fi_step (pc' := 99) m_St_climb rfl rfl ?_
    refine fi_step (pc' := 101) m_St_climb rfl rfl ?_
    refine g_2 (p := 104) m_St_climb rfl inv_v (by decide) m_St_meet rfl rfl (by omega) (by omega) (Nat.le_of_ble_eq_true rfl) (Nat.le_of_ble_eq_true rfl) (C_rcvS hC _) (st_meet (t := T) (M := FBND) hC (by omega) (by omega) v27' (by omega) (by omega) hp hq hpq ep eq h3 hW W12 hc (by omega) cpos (by omega) hzp hzpW hF.1 hold.1 hT (by omega) hxp) (fun v w hP => ?_)
    obtain ⟨rfl, s1, v1, p', q', hC, hs1, ep', eq', hor, hk2, hm1, hz1, hzW1, hsp1, hsz1⟩ := hP
    have hp' : p' < 7 := by rcases hor with ⟨a, b⟩ | ⟨a, b⟩ <;> omega
    have hq' : q' < 7 := by rcases hor with ⟨a, b⟩ | ⟨a, b⟩ <;> omega
    have h31 : s1 0 3 = n := by rw [hs1.1 0 (by decide)]; exact h3
    have h41 : s1 0 4 = W := by rw [hs1.1 0 (by decide)]; exact hW
    have e5 : s1 5 = s 5 := hs1.1 5 (by decide)
    have hpm1 : prm s1 := prm_sw hpm (by omega) (by omega) (by omega) hs1.2 (by rcases hor with ⟨a, b⟩ | ⟨a, b⟩ <;> subst a <;> subst b <;> omega)
    have hv1 : kpS v0 v1 := kpS_2 hv hp hq hk2
    have far : ∀ i : Nat, k + 1 ≤ i → i < n → ((s1 6 i).toNat ≠ p ∧ (s1 6 i).toNat ≠ q) ∧ s1 6 i = s 6 i := fun i a b => by
      have e := hs1.2 i (by omega) (by omega)
      have r1 := rv_ne hpm (show i < 7 by omega) (show n < 7 by omega) (by omega)
      have r2 := rv_ne hpm (show i < 7 by omega) (show k < 7 by omega) (by omega)
      rw [ep, Int.toNat_natCast] at r1
      rw [eq, Int.toNat_natCast] at r2
      exact ⟨by rw [e]; exact ⟨r1, r2⟩, e⟩
    have hK1 : KR s1 v1 W (k + 1) n FBND := fun i a b => by
      have f := far i a b
      have := KR_sub (mid_KR hm) (show k ≤ k + 1 by omega) i a b
      rw [e5, f.2, kp2_PR hk2 (by rw [← f.2]; exact f.1.1) (by rw [← f.2]; exact f.1.2)]
      exact this
    have hne1 : ∀ i : Nat, k + 1 ≤ i → i < n → ((s1 6 i).toNat ≠ q' ∧ (s1 6 i).toNat ≠ p') ∧ 0 ≤ s1 6 i ∧ s1 6 i < 7 := fun i a b => by
      have f := (far i a b).1
      exact ⟨by rcases hor with ⟨a, b⟩ | ⟨a, b⟩ <;> omega, hpm1.1 i (by omega)⟩
    have v271 : v1 27 = 1 := by rw [hv1 27 (by omega) (by omega) (by omega)]; exact v27
    refine fi_step (pc' := 105) m_St_climb rfl rfl ?_
    refine fi_step (pc' := 106) m_St_climb rfl rfl ?_
    refine k_get (p := 109) m_St_climb rfl rfl (by first | exact C_print hC | exact C_minors hC | exact C_stairs hC | exact (CW_cst hC).2.1 | exact C_mat hC (by omega) | exact ((CW_cst hC).2.2.2.2.2.2 _ (by omega)).1 | assumption) rfl ?_
    refine fi_step (pc' := 111) m_St_climb rfl rfl ?_
    refine r_ldR (p := 112) m_St_climb rfl rfl hC (by omega) (by omega) ?_
    rw [eq', Int.toNat_natCast]
    refine fi_step (pc' := 114) m_St_climb rfl rfl ?_
    refine fi_step (pc' := 115) m_St_climb rfl rfl ?_
    refine s_iadd (p := 116) m_St_climb rfl rfl ?_
    rw [show (k : Int) + 1 = ((k + 1 : Nat) : Int) by omega]
    refine g_3 (p := 119) m_St_climb rfl inv_v (by decide) m_St_settle rfl rfl (by omega) (by omega) (Nat.le_of_ble_eq_true rfl) (Nat.le_of_ble_eq_true rfl) (C_rcvS hC _) (st_settle (t := T + 38) (f := k + 1) (n := n) (W := W) (M := FBND) hC (by omega) (by omega) v271 hq' (by omega) (by omega) h31 h41 W12 hF.1 hK1 (fun i a b => ⟨(hne1 i a b).1.1, (hne1 i a b).2⟩) (by omega) (by omega) (fun j => (hsz1 j).1)) (fun v w hP => ?_)
    obtain ⟨rfl, v2, hC, k2, z2, t2⟩ := hP
    have hv2 : kpS v0 v2 := kpS_L hv1 hq' k2
    have v272 : v2 27 = 1 := by rw [hv2 27 (by omega) (by omega) (by omega)]; exact v27
    have hqp' : p' ≠ q' := by rcases hor with ⟨a, b⟩ | ⟨a, b⟩ <;> omega
    have hK2 : KR s1 v2 W (k + 1) n FBND := KR_keep hK1 k2 (fun i a b => (hne1 i a b).1.1)
    have ep2 : PR v2 p' = PR v1 p' := kpL_PR k2 hqp'
    refine fi_step (pc' := 120) m_St_climb rfl rfl ?_
    refine fi_step (pc' := 121) m_St_climb rfl rfl ?_
    refine k_get (p := 124) m_St_climb rfl rfl (by first | exact C_print hC | exact C_minors hC | exact C_stairs hC | exact (CW_cst hC).2.1 | exact C_mat hC (by omega) | exact ((CW_cst hC).2.2.2.2.2.2 _ (by omega)).1 | assumption) rfl ?_
    refine fi_step (pc' := 125) m_St_climb rfl rfl ?_
    refine k_get (p := 128) m_St_climb rfl rfl (by first | exact C_print hC | exact C_minors hC | exact C_stairs hC | exact (CW_cst hC).2.1 | exact C_mat hC (by omega) | exact ((CW_cst hC).2.2.2.2.2.2 _ (by omega)).1 | assumption) rfl ?_
    rw [h31]
    refine r_ldR (p := 129) m_St_climb rfl rfl hC (by omega) (by omega) ?_
    rw [ep', Int.toNat_natCast]
    refine fi_step (pc' := 131) m_St_climb rfl rfl ?_
    refine fi_step (pc' := 132) m_St_climb rfl rfl ?_
    refine s_iadd (p := 133) m_St_climb rfl rfl ?_
    rw [show (k : Int) + 1 = ((k + 1 : Nat) : Int) by omega]
    refine g_3 (p := 136) m_St_climb rfl inv_v (by decide) m_St_settle rfl rfl (by omega) (by omega) (Nat.le_of_ble_eq_true rfl) (Nat.le_of_ble_eq_true rfl) (C_rcvS hC _) (st_settle (t := T + 38) (f := k + 1) (n := n) (W := W) (M := FBND) hC (by omega) (by omega) v272 hp' (by omega) (by omega) h31 h41 W12 hF.1 hK2 (fun i a b => ⟨(hne1 i a b).1.2, (hne1 i a b).2⟩) (by omega) (by omega) (fun j => by rw [ep2]; exact (hsz1 j).2)) (fun v w hP => ?_)
    obtain ⟨rfl, v3, hC, k3, z3, t3⟩ := hP
    have hv3 : kpS v0 v3 := kpS_L hv2 hp' k3
    refine s_iinc (p := 139) m_St_climb rfl rfl rfl ?_
    refine fi_step (pc' := 63) m_St_climb rfl rfl ?_
    rw [show (k : Int) + 1 = ((k + 1 : Nat) : Int) by omega]
    have en : n - (k + 1) = r := by omega
    rw [en] at z2 z3
    refine ih (k + 1) (T + 38 + 25 * r) w s1 v3 (by omega) hC ⟨fun a a0 a5 a6 => by rw [hs1.1 a a6]; exact hs.1 a a0 a5 a6, fun i i3 i4 => by rw [hs1.1 0 (by decide)]; exact hs.2 i i3 i4⟩ hpm1 hv3 h31 h41 (by omega) (by omega) (mid_step hm hpm (by omega) (by omega) hc ep eq hs1 ep' eq' hor hk2 hm1 hz1 hzW1 hsp1 k2 z2 t2 k3 z3 t3 (by omega))
end CLIMB
