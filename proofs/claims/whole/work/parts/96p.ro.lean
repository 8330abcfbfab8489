/-! THE CLASS: rows of the stairs -/
/-- the numbers of a row -/
def PR (v : Nat → Int) (p : Nat) : Vec := fun j => if 0 ≤ j ∧ j < 12 then v (238 + 26 * p + 2 * j.toNat) else 0
theorem PR_at (v : Nat → Int) (p : Nat) {j : Nat} (hj : j < 12) : PR v p j = v (238 + 26 * p + 2 * j) := by unfold PR; rw [if_pos (by omega), Int.toNat_natCast]
theorem PR_out (v : Nat → Int) (p : Nat) {j : Int} (h : ¬ (0 ≤ j ∧ j < 12)) : PR v p j = 0 := by unfold PR; rw [if_neg h]
theorem PR_eq {v : Nat → Int} {p : Nat} {x : Vec} (h : ∀ j : Nat, j < 12 → v (238 + 26 * p + 2 * j) = x j) (ho : ∀ j : Int, ¬ (0 ≤ j ∧ j < 12) → x j = 0) : PR v p = x := by
  funext j
  by_cases hj : 0 ≤ j ∧ j < 12
  · obtain ⟨n, rfl⟩ := Int.eq_ofNat_of_zero_le hj.1
    rw [PR_at v p (by omega), h n (by omega)]
  · rw [PR_out v p hj, ho j hj]
/-- one row alone has changed -/
def kpR (p : Nat) (v v' : Nat → Int) : Prop := ∀ c, (∀ j : Nat, j < 12 → c ≠ 238 + 26 * p + 2 * j) → v' c = v c
/-- one row and the numbers of the division -/
def kpL (p : Nat) (v v' : Nat → Int) : Prop := ∀ c, (∀ j : Nat, j < 12 → c ≠ 238 + 26 * p + 2 * j) → c ≠ 19 → c ≠ 233 → v' c = v c
theorem kpR_L {p : Nat} {v v' : Nat → Int} (h : kpR p v v') : kpL p v v' := fun c a _ _ => h c a
theorem kpL_trans {p : Nat} {v v' v'' : Nat → Int} (h : kpL p v v') (h' : kpL p v' v'') : kpL p v v'' := fun c a b d => (h' c a b d).trans (h c a b d)
theorem kpL_PR {p q : Nat} {v v' : Nat → Int} (h : kpL p v v') (hne : q ≠ p) : PR v' q = PR v q := by
  funext j
  unfold PR
  split
  · rename_i hj
    exact h _ (fun j' hj' => by omega) (by omega) (by omega)
  · rfl
theorem i_row {p j : Nat} (hp : p < 7) (hj : j < 12) : isWh (238 + 26 * p + 2 * j) := isWh_iff.mpr (by omega)
theorem i233 : isWh 233 := isWh_iff.mpr (by omega)
theorem cap_row {p j : Nat} : capB (238 + 26 * p + 2 * j) = 700 := by unfold capB; rw [if_neg (by omega)]
theorem cap233 : capB 233 = 700 := by decide
theorem C_setR {w0 w : ax_W} {s : mo_S} {v : Nat → Int} {L Z : Nat} (hC : CW w0 w s v L Z) {i : Nat} {p : Nat} (hi : i < 7) : CW w0 (w.set 235 (35, ((List.range 7).map (fun (i : Nat) => Value.ref (236 + 26 * (s 6 i).toNat))).set i (.ref (236 + 26 * p)))) (up s 6 i p) v L Z := by
  have := CW_set (s' := up s 6 i p) hC (k := 18) (by decide) (fun j hj hne => by
    unfold cs
    rw [up_ne _ (show (0 : Nat) ≠ 6 by decide), up_ne _ (show (1 : Nat) ≠ 6 by decide), up_ne _ (show (2 : Nat) ≠ 6 by decide), up_ne _ (show (3 : Nat) ≠ 6 by decide), up_ne _ (show (4 : Nat) ≠ 6 by decide), up_ne _ (show (5 : Nat) ≠ 6 by decide)]
    simp only [hne, if_false]) rfl
  have e : cs (up s 6 i p) 18 = (35, ((List.range 7).map (fun (i : Nat) => Value.ref (236 + 26 * (s 6 i).toNat))).set i (.ref (236 + 26 * p))) := by
    show (35, (List.range 7).map (fun (k : Nat) => Value.ref (236 + 26 * (up s 6 i p 6 k).toNat))) = _
    congr 1
    apply List.ext_getElem?
    intro k
    rw [List.getElem?_set]
    by_cases hk : k < 7
    · rw [List.getElem?_map, List.getElem?_range hk]
      by_cases e : i = k
      · subst e
        rw [if_pos rfl, if_pos (by simp; omega), up_same]
        simp [up1_same]
      · rw [if_neg e, List.getElem?_map, List.getElem?_range hk, up_same]
        simp only [Option.map_some]
        rw [up1_ne _ (by omega)]
    · rw [if_neg (by omega), List.getElem?_eq_none (by simp; omega), List.getElem?_eq_none (by simp; omega)]
  rw [e] at this
  exact this
theorem C_setL {w0 w : ax_W} {s : mo_S} {v : Nat → Int} {L Z : Nat} (hC : CW w0 w s v L Z) (i x : Int) : CW w0 (w.set 418 (20, aI 7 (up1 (s 5) i x))) (up s 5 i x) v L Z := by
  have := CW_set (s' := up s 5 i x) hC (k := 19) (by decide) (fun j hj hne => by
    unfold cs
    rw [up_ne _ (show (0 : Nat) ≠ 5 by decide), up_ne _ (show (1 : Nat) ≠ 5 by decide), up_ne _ (show (2 : Nat) ≠ 5 by decide), up_ne _ (show (3 : Nat) ≠ 5 by decide), up_ne _ (show (4 : Nat) ≠ 5 by decide), up_ne _ (show (6 : Nat) ≠ 5 by decide)]
    by_cases e : j < 7
    · rw [if_pos e, if_pos e]
    · rw [if_neg e, if_neg e]
      by_cases e' : j < 14
      · rw [if_pos e', if_pos e']
      · rw [if_neg e', if_neg e']
        rcases (show j = 14 ∨ j = 15 ∨ j = 16 ∨ j = 17 ∨ j = 18 by omega) with rfl | rfl | rfl | rfl | rfl <;> rfl) rfl
  have e : cs (up s 5 i x) 19 = (20, aI 7 (up1 (s 5) i x)) := by simp [cs, up]
  rw [e] at this
  exact this
section RO
variable {xs : List Int32} {fr lo z pc p l u1 u2 u3 : Nat} {ls : List (Option Value)} {st : List Value} {w0 w : ax_W} {Q : Outcome → ax_W → Prop} {M : ax_M} {s : mo_S} {v : Nat → Int} {L Z q : Nat} {x y : Int}
theorem r_ldR (hM : ax_prog[z]? = some M) (he : M.1[pc]? = some (some (.aaload, l, u1, u2, u3))) (hp : pc + l = p) (hC : CW w0 w s v L Z) (h0 : 0 ≤ x) (h1 : x < 7) (kk : fin xs fr lo z p ls (.ref (236 + 26 * (s 6 x).toNat) :: st) w Q) : fin xs fr lo z pc ls (.int (jI x) :: .ref 235 :: st) w Q := by
  subst hp
  obtain ⟨n, rfl⟩ := Int.eq_ofNat_of_zero_le h0
  refine fi_aald hM he (C_rows hC) (by decide) (jI_nn h0 (by omega)) (rg_get (f := fun (i : Nat) => .ref (236 + 26 * (s 6 i).toNat)) h0 h1 (by decide)) ?_
  rw [Int.toNat_natCast]; exact kk
theorem r_ldN (hM : ax_prog[z]? = some M) (he : M.1[pc]? = some (some (.aaload, l, u1, u2, u3))) (hp : pc + l = p) (hC : CW w0 w s v L Z) (hq : q < 7) (h0 : 0 ≤ x) (h1 : x < 12) (kk : fin xs fr lo z p ls (.ref (238 + 26 * q + 2 * x.toNat) :: st) w Q) : fin xs fr lo z pc ls (.int (jI x) :: .ref (237 + 26 * q) :: st) w Q := by
  subst hp
  exact fi_aald hM he ((CW_cst hC).2.2.2.2.2.2 q hq).2 (by decide) (jI_nn h0 (by omega)) (rg_get (f := fun (j : Nat) => .ref (238 + 26 * q + 2 * j)) h0 h1 (by decide)) kk
theorem r_lnN (hM : ax_prog[z]? = some M) (he : M.1[pc]? = some (some (.arraylength, l, u1, u2, u3))) (hp : pc + l = p) (hC : CW w0 w s v L Z) (hq : q < 7) (kk : fin xs fr lo z p ls (.int (jI 12) :: st) w Q) : fin xs fr lo z pc ls (.ref (237 + 26 * q) :: st) w Q := by
  subst hp
  refine fi_alen hM he ((CW_cst hC).2.2.2.2.2.2 q hq).2 (by decide) ?_
  rw [List.length_map, List.length_range, show (12 : Nat).toInt32 = jI 12 from Int32.ofInt_eq_ofNat.symm]
  exact kk
theorem d_ldL (hM : ax_prog[z]? = some M) (he : M.1[pc]? = some (some (.iaload, l, u1, u2, u3))) (hp : pc + l = p) (hC : CW w0 w s v L Z) (h0 : 0 ≤ x) (h1 : x < 7) (kk : fin xs fr lo z p ls (.int (jI (s 5 x)) :: st) w Q) : fin xs fr lo z pc ls (.int (jI x) :: .ref 418 :: st) w Q := by
  subst hp
  exact fi_iald hM he (C_leads hC) (jI_nn h0 (by omega)) (by rw [jI_nat h0 (by omega)]; exact aI_get h0 h1) kk
theorem d_stL (hM : ax_prog[z]? = some M) (he : M.1[pc]? = some (some (.iastore, l, u1, u2, u3))) (hp : pc + l = p) (hC : CW w0 w s v L Z) (h0 : 0 ≤ x) (h1 : x < 7) (kk : ∀ w1, CW w0 w1 (up s 5 x y) v L Z → fin xs fr lo z p ls st w1 Q) : fin xs fr lo z pc ls (.int (jI y) :: .int (jI x) :: .ref 418 :: st) w Q := by
  subst hp
  refine fi_iast hM he (C_leads hC) (jI_nn h0 (by omega)) (by rw [jI_nat h0 (by omega), aI_len]; omega) ?_
  rw [jI_nat h0 (by omega), aI_set h0]
  exact kk _ (C_setL hC x y)
theorem r_stR (hM : ax_prog[z]? = some M) (he : M.1[pc]? = some (some (.aastore, l, u1, u2, u3))) (hp : pc + l = p) (hC : CW w0 w s v L Z) (h0 : 0 ≤ x) (h1 : x < 7) (hq : q < 7) (kk : ∀ w1, CW w0 w1 (up s 6 x q) v L Z → fin xs fr lo z p ls st w1 Q) : fin xs fr lo z pc ls (.ref (236 + 26 * q) :: .int (jI x) :: .ref 235 :: st) w Q := by
  subst hp
  obtain ⟨n, rfl⟩ := Int.eq_ofNat_of_zero_le h0
  refine fi_hp hM he rfl rfl rfl (st' := st) ?_ (kk _ (C_setR (i := n) (p := q) hC (by omega)))
  have e1 := ((CW_cst hC).2.2.2.2.2.2 q hq).1
  have e2 := C_rows hC
  have n1 : ¬ (jI (n : Int) < 0) := jI_nn (by omega) (by omega)
  have e3 : (jI (n : Int)).toNatClampNeg = n := by rw [jI_nat (by omega) (by omega), Int.toNat_natCast]
  have e4 : n < 7 := by omega
  simp [ax_hp, ax_aast, ax_wr, e1, e2, n1, e3, e4]
theorem roc_loop {v0 : Nat → Int} (hq : q < 7) : ∀ (n k : Nat) (w : ax_W) (v : Nat → Int), k + n = 12 → CW w0 w s v L Z → kpR q v0 v → (∀ j : Nat, j < k → v (238 + 26 * q + 2 * j) = 0) →
    (hfr : 1 ≤ fr) → (hlo : 30 ≤ lo) → fin xs fr lo 59 2 [some (.ref (236 + 26 * q)), some (.int (jI (k : Int)))] [] w (Ret fun u w' => u = none ∧ ∃ v', CW w0 w' s v' L Z ∧ kpR q v0 v' ∧ ∀ j : Nat, j < 12 → v' (238 + 26 * q + 2 * j) = 0) := by
  intro n
  induction n with
  | zero =>
    intro k w v hk hC hr hz hfr hlo
    refine fi_step (pc' := 3) m_Ro_clear rfl rfl ?_
    refine fi_step (pc' := 4) m_Ro_clear rfl rfl ?_
    refine k_get (p := 7) m_Ro_clear rfl rfl (by first | exact C_print hC | exact C_minors hC | exact C_stairs hC | exact (CW_cst hC).2.1 | exact C_mat hC (by omega) | exact ((CW_cst hC).2.2.2.2.2.2 _ (by omega)).1 | assumption) rfl ?_
    refine r_lnN (p := 8) m_Ro_clear rfl rfl hC hq ?_
    refine s_ic_ge (p := 11) m_Ro_clear rfl rfl (by omega) (by omega) (by omega) (by omega) (fun hbr => ?_) (fun hbr => False.elim (by omega))
    refine p_ret m_Ro_clear rfl rfl ?_
    exact ⟨rfl, v, hC, hr, fun j hj => hz j (by omega)⟩
  | succ n ih =>
    intro k w v hk hC hr hz hfr hlo
    refine fi_step (pc' := 3) m_Ro_clear rfl rfl ?_
    refine fi_step (pc' := 4) m_Ro_clear rfl rfl ?_
    refine k_get (p := 7) m_Ro_clear rfl rfl (by first | exact C_print hC | exact C_minors hC | exact C_stairs hC | exact (CW_cst hC).2.1 | exact C_mat hC (by omega) | exact ((CW_cst hC).2.2.2.2.2.2 _ (by omega)).1 | assumption) rfl ?_
    refine r_lnN (p := 8) m_Ro_clear rfl rfl hC hq ?_
    refine s_ic_ge (p := 11) m_Ro_clear rfl rfl (by omega) (by omega) (by omega) (by omega) (fun hbr => False.elim (by omega)) (fun hbr => ?_)
    refine fi_step (pc' := 12) m_Ro_clear rfl rfl ?_
    refine k_get (p := 15) m_Ro_clear rfl rfl (by first | exact C_print hC | exact C_minors hC | exact C_stairs hC | exact (CW_cst hC).2.1 | exact C_mat hC (by omega) | exact ((CW_cst hC).2.2.2.2.2.2 _ (by omega)).1 | assumption) rfl ?_
    refine fi_step (pc' := 16) m_Ro_clear rfl rfl ?_
    refine r_ldN (p := 17) m_Ro_clear rfl rfl hC hq (by omega) (by omega) ?_
    rw [Int.toNat_natCast]
    have iA : isWh (238 + 26 * q + 2 * k) := i_row hq (by omega)
    refine g_1 (p := 20) m_Ro_clear rfl inv_v (by decide) m_Wh_clear rfl rfl (by omega) (by omega) (Nat.le_of_ble_eq_true rfl) (Nat.le_of_ble_eq_true rfl) (C_rcvW hC (by first | assumption | exact rfl) _) (cn_clear hC iA) (fun v w hP => ?_)
    obtain ⟨rfl, hC⟩ := hP
    refine s_iinc (p := 23) m_Ro_clear rfl rfl rfl ?_
    refine fi_step (pc' := 2) m_Ro_clear rfl rfl ?_
    rw [show (k : Int) + 1 = ((k + 1 : Nat) : Int) by omega]
    refine ih (k + 1) w _ (by omega) hC (fun c hc => by rw [upv_ne _ (hc k (by omega)), hr c hc]) (fun j hj => ?_) hfr hlo
    by_cases e : j = k
    · subst e; exact upv_same _ _ _
    · rw [upv_ne _ (by omega)]; exact hz j (by omega)
theorem ro_clear (hC : CW w0 w s v L Z) (hq : q < 7) (hfr : 1 ≤ fr) (hlo : 30 ≤ lo) : fin xs fr lo 59 0 (ax_ent [.ref (236 + 26 * q)] 2) [] w (Ret fun u w' => u = none ∧ ∃ v', CW w0 w' s v' L Z ∧ kpR q v v' ∧ ∀ j : Nat, j < 12 → v' (238 + 26 * q + 2 * j) = 0) := by
  refine fi_step (pc' := 1) m_Ro_clear rfl rfl ?_
  refine fi_step (pc' := 2) m_Ro_clear rfl rfl ?_
  exact roc_loop hq 12 0 w v (by omega) hC (fun _ _ => rfl) (fun j hj => by omega) hfr hlo
theorem rot_loop {v0 : Nat → Int} (hq : q < 7) (hfr : 1 ≤ fr) (hlo : 30 ≤ lo) : ∀ (n k : Nat) (w : ax_W) (v : Nat → Int), k + n = 12 → CW w0 w s v L Z → kpR q v0 v → (∀ j : Nat, j < 12 → v (238 + 26 * q + 2 * j) = if j < k then - v0 (238 + 26 * q + 2 * j) else v0 (238 + 26 * q + 2 * j)) →
    fin xs fr lo 74 2 [some (.ref (236 + 26 * q)), some (.int (jI (k : Int)))] [] w (Ret fun u w' => u = none ∧ ∃ v', CW w0 w' s v' L Z ∧ kpR q v0 v' ∧ ∀ j : Nat, j < 12 → v' (238 + 26 * q + 2 * j) = - v0 (238 + 26 * q + 2 * j)) := by
  intro n
  induction n with
  | zero =>
    intro k w v hk hC hr hz
    refine fi_step (pc' := 3) m_Ro_turnSigns rfl rfl ?_
    refine fi_step (pc' := 4) m_Ro_turnSigns rfl rfl ?_
    refine k_get (p := 7) m_Ro_turnSigns rfl rfl (by first | exact C_print hC | exact C_minors hC | exact C_stairs hC | exact (CW_cst hC).2.1 | exact C_mat hC (by omega) | exact ((CW_cst hC).2.2.2.2.2.2 _ (by omega)).1 | assumption) rfl ?_
    refine r_lnN (p := 8) m_Ro_turnSigns rfl rfl hC hq ?_
    refine s_ic_ge (p := 11) m_Ro_turnSigns rfl rfl (by omega) (by omega) (by omega) (by omega) (fun hbr => ?_) (fun hbr => False.elim (by omega))
    refine p_ret m_Ro_turnSigns rfl rfl ?_
    exact ⟨rfl, v, hC, hr, fun j hj => by rw [hz j hj, if_pos (by omega)]⟩
  | succ n ih =>
    intro k w v hk hC hr hz
    refine fi_step (pc' := 3) m_Ro_turnSigns rfl rfl ?_
    refine fi_step (pc' := 4) m_Ro_turnSigns rfl rfl ?_
    refine k_get (p := 7) m_Ro_turnSigns rfl rfl (by first | exact C_print hC | exact C_minors hC | exact C_stairs hC | exact (CW_cst hC).2.1 | exact C_mat hC (by omega) | exact ((CW_cst hC).2.2.2.2.2.2 _ (by omega)).1 | assumption) rfl ?_
    refine r_lnN (p := 8) m_Ro_turnSigns rfl rfl hC hq ?_
    refine s_ic_ge (p := 11) m_Ro_turnSigns rfl rfl (by omega) (by omega) (by omega) (by omega) (fun hbr => False.elim (by omega)) (fun hbr => ?_)
    refine fi_step (pc' := 12) m_Ro_turnSigns rfl rfl ?_
    refine k_get (p := 15) m_Ro_turnSigns rfl rfl (by first | exact C_print hC | exact C_minors hC | exact C_stairs hC | exact (CW_cst hC).2.1 | exact C_mat hC (by omega) | exact ((CW_cst hC).2.2.2.2.2.2 _ (by omega)).1 | assumption) rfl ?_
    refine fi_step (pc' := 16) m_Ro_turnSigns rfl rfl ?_
    refine r_ldN (p := 17) m_Ro_turnSigns rfl rfl hC hq (by omega) (by omega) ?_
    rw [Int.toNat_natCast]
    have iA : isWh (238 + 26 * q + 2 * k) := i_row hq (by omega)
    refine g_1 (p := 20) m_Ro_turnSigns rfl inv_v (by decide) m_Wh_negate rfl rfl (by omega) (by omega) (Nat.le_of_ble_eq_true rfl) (Nat.le_of_ble_eq_true rfl) (C_rcvW hC (by first | assumption | exact rfl) _) (cn_negate hC iA) (fun v w hP => ?_)
    obtain ⟨rfl, hC⟩ := hP
    refine s_iinc (p := 23) m_Ro_turnSigns rfl rfl rfl ?_
    refine fi_step (pc' := 2) m_Ro_turnSigns rfl rfl ?_
    rw [show (k : Int) + 1 = ((k + 1 : Nat) : Int) by omega]
    refine ih (k + 1) w _ (by omega) hC (fun c hc => by rw [upv_ne _ (hc k (by omega)), hr c hc]) (fun j hj => ?_)
    by_cases e : j = k
    · subst e; rw [upv_same, hz j hj, if_neg (by omega), if_pos (by omega)]
    · rw [upv_ne _ (by omega), hz j hj]
      by_cases e' : j < k
      · rw [if_pos e', if_pos (by omega)]
      · rw [if_neg e', if_neg (by omega)]
theorem ro_turnSigns (hC : CW w0 w s v L Z) (hq : q < 7) (hfr : 1 ≤ fr) (hlo : 30 ≤ lo) : fin xs fr lo 74 0 (ax_ent [.ref (236 + 26 * q)] 2) [] w (Ret fun u w' => u = none ∧ ∃ v', CW w0 w' s v' L Z ∧ kpR q v v' ∧ PR v' q = fun j => - PR v q j) := by
  refine fi_step (pc' := 1) m_Ro_turnSigns rfl rfl ?_
  refine fi_step (pc' := 2) m_Ro_turnSigns rfl rfl ?_
  refine fi_mono (rot_loop hq hfr hlo 12 0 w v (by omega) hC (fun _ _ => rfl) (fun j hj => by rw [if_neg (by omega)])) (fun o w' ⟨u, e, hu, v', h1, h2, h3⟩ => ⟨u, e, hu, v', h1, h2, PR_eq (fun j hj => by rw [h3 j hj, PR_at v q hj]) (fun j hj => by rw [PR_out v q hj]; rfl)⟩)
/-- the first column with a number that isn't 0, or the end -/
def isLd (x : Vec) (E ld : Nat) : Prop := ld ≤ E ∧ (∀ j : Int, j < ld → 0 ≤ j → x j = 0) ∧ (ld < E → x ld ≠ 0)
theorem rol_loop {E : Nat} (hC : CW w0 w s v L Z) (hq : q < 7) (hE : E ≤ 12) (hfr : 1 ≤ fr) (hlo : 30 ≤ lo) : ∀ (n k : Nat), k + n = E → (∀ j : Nat, j < k → PR v q j = 0) →
    fin xs fr lo 60 2 [some (.ref (236 + 26 * q)), some (.int (jI (E : Int))), some (.int (jI (k : Int)))] [] w (Ret fun u w' => w' = w ∧ ∃ ld : Nat, u = some (.int (jI (ld : Int))) ∧ isLd (PR v q) E ld) := by
  have toI : ∀ k : Nat, (∀ j : Nat, j < k → PR v q j = 0) → ∀ j : Int, j < k → 0 ≤ j → PR v q j = 0 := fun k h j a b => by
    obtain ⟨n, rfl⟩ := Int.eq_ofNat_of_zero_le b
    exact h n (by omega)
  intro n
  induction n with
  | zero =>
    intro k hk hz
    refine fi_step (pc' := 3) m_Ro_lead rfl rfl ?_
    refine fi_step (pc' := 4) m_Ro_lead rfl rfl ?_
    refine s_ic_ge (p := 7) m_Ro_lead rfl rfl (by omega) (by omega) (by omega) (by omega) (fun hbr => ?_) (fun hbr => False.elim (by omega))
    refine fi_step (pc' := 26) m_Ro_lead rfl rfl ?_
    refine p_reti m_Ro_lead rfl rfl ?_
    exact ⟨rfl, k, rfl, by omega, toI k hz, fun h => by omega⟩
  | succ n ih =>
    intro k hk hz
    refine fi_step (pc' := 3) m_Ro_lead rfl rfl ?_
    refine fi_step (pc' := 4) m_Ro_lead rfl rfl ?_
    refine s_ic_ge (p := 7) m_Ro_lead rfl rfl (by omega) (by omega) (by omega) (by omega) (fun hbr => False.elim (by omega)) (fun hbr => ?_)
    refine fi_step (pc' := 8) m_Ro_lead rfl rfl ?_
    refine k_get (p := 11) m_Ro_lead rfl rfl (by first | exact C_print hC | exact C_minors hC | exact C_stairs hC | exact (CW_cst hC).2.1 | exact C_mat hC (by omega) | exact ((CW_cst hC).2.2.2.2.2.2 _ (by omega)).1 | assumption) rfl ?_
    refine fi_step (pc' := 12) m_Ro_lead rfl rfl ?_
    refine r_ldN (p := 13) m_Ro_lead rfl rfl hC hq (by omega) (by omega) ?_
    rw [Int.toNat_natCast]
    have iA : isWh (238 + 26 * q + 2 * k) := i_row hq (by omega)
    have eA := PR_at v q (show k < 12 by omega)
    by_cases h0 : v (238 + 26 * q + 2 * k) = 0
    · have hh := cn_isZero (xs := xs) (fr := fr - 1) (lo := lo - 20) hC iA
      rw [if_pos h0] at hh
      refine c_1 (p := 16) m_Ro_lead rfl inv_v (by decide) m_Wh_isZero rfl rfl (by omega) (by omega) (Nat.le_of_ble_eq_true rfl) (Nat.le_of_ble_eq_true rfl) (C_rcvW hC (by first | assumption | exact rfl) _) hh ?_
      refine s_if_eq (p := 19) m_Ro_lead rfl rfl (by omega) (by omega) (fun hbr => False.elim (by omega)) (fun hbr => ?_)
      refine s_iinc (p := 22) m_Ro_lead rfl rfl rfl ?_
      refine fi_step (pc' := 2) m_Ro_lead rfl rfl ?_
      rw [show (k : Int) + 1 = ((k + 1 : Nat) : Int) by omega]
      refine ih (k + 1) (by omega) (fun j hj => ?_)
      by_cases e : j = k
      · subst e; rw [eA, h0]
      · exact hz j (by omega)
    · have hh := cn_isZero (xs := xs) (fr := fr - 1) (lo := lo - 20) hC iA
      rw [if_neg h0] at hh
      refine c_1 (p := 16) m_Ro_lead rfl inv_v (by decide) m_Wh_isZero rfl rfl (by omega) (by omega) (Nat.le_of_ble_eq_true rfl) (Nat.le_of_ble_eq_true rfl) (C_rcvW hC (by first | assumption | exact rfl) _) hh ?_
      refine s_if_eq (p := 19) m_Ro_lead rfl rfl (by omega) (by omega) (fun hbr => ?_) (fun hbr => False.elim (by omega))
      refine fi_step (pc' := 26) m_Ro_lead rfl rfl ?_
      refine p_reti m_Ro_lead rfl rfl ?_
      exact ⟨rfl, k, rfl, by omega, toI k hz, fun h => by rw [eA]; exact h0⟩
theorem ro_lead {E : Nat} (hC : CW w0 w s v L Z) (hq : q < 7) (hE : E ≤ 12) (hfr : 1 ≤ fr) (hlo : 30 ≤ lo) : fin xs fr lo 60 0 (ax_ent [.ref (236 + 26 * q), .int (jI (E : Int))] 3) [] w (Ret fun u w' => w' = w ∧ ∃ ld : Nat, u = some (.int (jI (ld : Int))) ∧ isLd (PR v q) E ld) := by
  refine fi_step (pc' := 1) m_Ro_lead rfl rfl ?_
  refine fi_step (pc' := 2) m_Ro_lead rfl rfl ?_
  exact rol_loop hC hq hE hfr hlo E 0 (by omega) (fun j hj => by omega)
end RO
