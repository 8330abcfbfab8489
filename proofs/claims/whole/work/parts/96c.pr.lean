/-! THE CLASS: what is printed -/
section CPUT
variable {xs : List Int32} {fr lo z pc p l u3 idx : Nat} {ls : List (Option Value)} {st : List Value} {w0 w : ax_W} {Q : Outcome → ax_W → Prop} {M : ax_M} {s : mo_S} {v : Nat → Int} {L Z : Nat} {x : Int}
theorem c_put41 (hM : ax_prog[z]? = some M) (he : M.1[pc]? = some (some (.putfield idx, l, 4, 1, u3))) (hp : pc + l = p) (hC : CW w0 w s v L Z) (kk : ∀ w1, CW w0 w1 (up s 0 0 x) v L Z → fin xs fr lo z p ls st w1 Q) : fin xs fr lo z pc ls (.int (jI x) :: .ref 16 :: st) w Q := by
  subst hp
  refine fi_put hM he (ks := [2, 0]) rfl rfl rfl (C_print hC) (by simp) (kk _ ?_)
  have := C_upd0 (x := x) hC (k := 14) (i := 0) (Or.inl ⟨rfl, rfl⟩)
  have e : cs (up s 0 0 x) 14 = (4, [.ref 17, .int (jI x)]) := by simp [cs, up, up1]
  rw [show ((0 : Nat) : Int) = 0 from rfl] at this
  rw [e] at this
  exact this
theorem c_put33 (hM : ax_prog[z]? = some M) (he : M.1[pc]? = some (some (.putfield idx, l, 3, 3, u3))) (hp : pc + l = p) (hC : CW w0 w s v L Z) (kk : ∀ w1, CW w0 w1 (up s 0 1 x) v L Z → fin xs fr lo z p ls st w1 Q) : fin xs fr lo z pc ls (.int (jI x) :: .ref 29 :: st) w Q := by
  subst hp
  refine fi_put hM he (ks := [2, 2, 2, 0, 0]) rfl rfl rfl (C_minors hC) (by simp) (kk _ ?_)
  have := C_upd0 (x := x) hC (k := 16) (i := 1) (Or.inr (Or.inl ⟨rfl, Or.inl rfl⟩))
  have e : cs (up s 0 1 x) 16 = (3, [.ref 18, .ref 30, .ref 103, .int (jI x), .int (jI (s 0 2))]) := by simp [cs, up, up1]
  rw [show ((1 : Nat) : Int) = 1 from rfl] at this
  rw [e] at this
  exact this
theorem c_put34 (hM : ax_prog[z]? = some M) (he : M.1[pc]? = some (some (.putfield idx, l, 3, 4, u3))) (hp : pc + l = p) (hC : CW w0 w s v L Z) (kk : ∀ w1, CW w0 w1 (up s 0 2 x) v L Z → fin xs fr lo z p ls st w1 Q) : fin xs fr lo z pc ls (.int (jI x) :: .ref 29 :: st) w Q := by
  subst hp
  refine fi_put hM he (ks := [2, 2, 2, 0, 0]) rfl rfl rfl (C_minors hC) (by simp) (kk _ ?_)
  have := C_upd0 (x := x) hC (k := 16) (i := 2) (Or.inr (Or.inl ⟨rfl, Or.inr rfl⟩))
  have e : cs (up s 0 2 x) 16 = (3, [.ref 18, .ref 30, .ref 103, .int (jI (s 0 1)), .int (jI x)]) := by simp [cs, up, up1]
  rw [show ((2 : Nat) : Int) = 2 from rfl] at this
  rw [e] at this
  exact this
theorem c_put64 (hM : ax_prog[z]? = some M) (he : M.1[pc]? = some (some (.putfield idx, l, 6, 4, u3))) (hp : pc + l = p) (hC : CW w0 w s v L Z) (kk : ∀ w1, CW w0 w1 (up s 0 3 x) v L Z → fin xs fr lo z p ls st w1 Q) : fin xs fr lo z pc ls (.int (jI x) :: .ref 232 :: st) w Q := by
  subst hp
  refine fi_put hM he (ks := [2, 2, 2, 2, 0, 0]) rfl rfl rfl (C_stairs hC) (by simp) (kk _ ?_)
  have := C_upd0 (x := x) hC (k := 17) (i := 3) (Or.inr (Or.inr ⟨rfl, Or.inl rfl⟩))
  have e : cs (up s 0 3 x) 17 = (6, [.ref 18, .ref 233, .ref 235, .ref 418, .int (jI x), .int (jI (s 0 4))]) := by simp [cs, up, up1]
  rw [show ((3 : Nat) : Int) = 3 from rfl] at this
  rw [e] at this
  exact this
theorem c_put65 (hM : ax_prog[z]? = some M) (he : M.1[pc]? = some (some (.putfield idx, l, 6, 5, u3))) (hp : pc + l = p) (hC : CW w0 w s v L Z) (kk : ∀ w1, CW w0 w1 (up s 0 4 x) v L Z → fin xs fr lo z p ls st w1 Q) : fin xs fr lo z pc ls (.int (jI x) :: .ref 232 :: st) w Q := by
  subst hp
  refine fi_put hM he (ks := [2, 2, 2, 2, 0, 0]) rfl rfl rfl (C_stairs hC) (by simp) (kk _ ?_)
  have := C_upd0 (x := x) hC (k := 17) (i := 4) (Or.inr (Or.inr ⟨rfl, Or.inr rfl⟩))
  have e : cs (up s 0 4 x) 17 = (6, [.ref 18, .ref 233, .ref 235, .ref 418, .int (jI (s 0 3)), .int (jI x)]) := by simp [cs, up, up1]
  rw [show ((4 : Nat) : Int) = 4 from rfl] at this
  rw [e] at this
  exact this
theorem C_rcv (hC : CW w0 w s v L Z) (as : List Value) : ax_rcv 5 (.ref 16 :: as) w = true := by
  simp only [ax_rcv, C_print hC, beq_self_eq_true]
/-- a letter is written -/
theorem C_letter (hC : CW w0 w s v L Z) (i x : Int) : CW w0 (w.set 17 (22, aI 256 (up1 (s 4) i x))) (up s 4 i x) v L Z := by
  have := CW_set (s' := up s 4 i x) hC (k := 15) (by decide) (fun j hj hne => by
    unfold cs
    rw [up_ne _ (show (0 : Nat) ≠ 4 by decide), up_ne _ (show (1 : Nat) ≠ 4 by decide), up_ne _ (show (2 : Nat) ≠ 4 by decide), up_ne _ (show (3 : Nat) ≠ 4 by decide), up_ne _ (show (5 : Nat) ≠ 4 by decide), up_ne _ (show (6 : Nat) ≠ 4 by decide)]
    simp only [hne, if_false]) rfl
  have e : cs (up s 4 i x) 15 = (22, aI 256 (up1 (s 4) i x)) := by simp [cs, up]
  rw [e] at this
  exact this
end CPUT
/-- the letters that are printed -/
def prC (s : mo_S) (l : List Int) : Prop := s 0 0 = l.length ∧ seg (s 4) 0 l.length = l
/-- only what is printed has changed -/
def kpP (s s' : mo_S) : Prop := (∀ a, a ≠ 0 → a ≠ 4 → s' a = s a) ∧ ∀ i, i ≠ 0 → s' 0 i = s 0 i
theorem kpP_trans {s s' s'' : mo_S} (h : kpP s s') (h' : kpP s' s'') : kpP s s'' := ⟨fun a h0 h4 => (h'.1 a h0 h4).trans (h.1 a h0 h4), fun i hi => (h'.2 i hi).trans (h.2 i hi)⟩
section PR
variable {xs : List Int32} {fr lo : Nat} {w0 w : ax_W} {s : mo_S} {v : Nat → Int} {L Z : Nat}
theorem p_clear (hC : CW w0 w s v L Z) : fin xs fr lo 88 0 (ax_ent [.ref 16] 1) [] w (Ret fun u w' => u = none ∧ ∃ s', CW w0 w' s' v L Z ∧ kpP s s' ∧ prC s' []) := by
  refine fi_step (pc' := 1) m_Pr_clear rfl rfl ?_
  refine fi_step (pc' := 2) m_Pr_clear rfl rfl ?_
  refine c_put41 (p := 5) m_Pr_clear rfl rfl hC (fun w hC => ?_)
  refine p_ret m_Pr_clear rfl rfl ?_
  exact ⟨rfl, _, hC, ⟨fun a h0 _ => up_ne _ h0 _ _, fun i hi => by rw [up_same, up1_ne _ hi]⟩, by rw [up_same, up1_same]; rfl, rfl⟩
theorem p_letter {l : List Int} {x : Int} (hC : CW w0 w s v L Z) (hp : prC s l) (hl : l.length < 256) (x0 : 0 ≤ x) (x1 : x ≤ 65535) : fin xs fr lo 90 0 (ax_ent [.ref 16, .int (jI x)] 2) [] w (Ret fun u w' => u = none ∧ ∃ s', CW w0 w' s' v L Z ∧ kpP s s' ∧ prC s' (l ++ [x])) := by
  have h0 := hp.1
  refine fi_step (pc' := 1) m_Pr_letter rfl rfl ?_
  refine k_get (p := 4) m_Pr_letter rfl rfl (by first | exact C_print hC | exact C_minors hC | exact C_stairs hC | exact (CW_cst hC).2.1 | exact C_mat hC (by omega) | assumption) rfl ?_
  refine fi_step (pc' := 5) m_Pr_letter rfl rfl ?_
  refine k_get (p := 8) m_Pr_letter rfl rfl (by first | exact C_print hC | exact C_minors hC | exact C_stairs hC | exact (CW_cst hC).2.1 | exact C_mat hC (by omega) | assumption) rfl ?_
  refine fi_alen m_Pr_letter rfl (C_letters hC) (by decide) ?_
  rw [aI_len, show (256 : Nat).toInt32 = jI 256 from Int32.ofInt_eq_ofNat.symm]
  refine s_ic_ge (p := 12) m_Pr_letter rfl rfl (by omega) (by omega) (by omega) (by omega) (fun hbr => False.elim (by omega)) (fun hbr => ?_)
  refine fi_step (pc' := 13) m_Pr_letter rfl rfl ?_
  refine k_get (p := 16) m_Pr_letter rfl rfl (by first | exact C_print hC | exact C_minors hC | exact C_stairs hC | exact (CW_cst hC).2.1 | exact C_mat hC (by omega) | assumption) rfl ?_
  refine fi_step (pc' := 17) m_Pr_letter rfl rfl ?_
  refine k_get (p := 20) m_Pr_letter rfl rfl (by first | exact C_print hC | exact C_minors hC | exact C_stairs hC | exact (CW_cst hC).2.1 | exact C_mat hC (by omega) | assumption) rfl ?_
  refine fi_step (pc' := 21) m_Pr_letter rfl rfl ?_
  refine fi_cast m_Pr_letter rfl (C_letters hC) (jI_nn (by omega) (by omega)) (by rw [jI_nat (by omega) (by omega), aI_len]; omega) (jI_nn x0 (by omega)) (by
    rw [show (65535 : Int32) = jI 65535 from rfl, jI_lt (by omega) (by omega) (by omega) (by omega)]; omega) ?_
  rw [jI_nat (by omega) (by omega), aI_set (by omega)]
  have hC := C_letter hC (s 0 0) x
  generalize w.set 17 (22, aI 256 (up1 (s 4) (s 0 0) x)) = w at hC ⊢
  have e0 : up s 4 (s 0 0) x 0 0 = s 0 0 := by rw [up_ne _ (by decide)]
  refine fi_step (pc' := 23) m_Pr_letter rfl rfl ?_
  refine fi_step (pc' := 24) m_Pr_letter rfl rfl ?_
  refine k_get (p := 27) m_Pr_letter rfl rfl (by first | exact C_print hC | exact C_minors hC | exact C_stairs hC | exact (CW_cst hC).2.1 | exact C_mat hC (by omega) | assumption) rfl ?_
  refine fi_step (pc' := 28) m_Pr_letter rfl rfl ?_
  refine s_iadd (p := 29) m_Pr_letter rfl rfl ?_
  refine c_put41 (p := 32) m_Pr_letter rfl rfl hC (fun w hC => ?_)
  refine p_ret m_Pr_letter rfl rfl ?_
  rw [e0] at hC
  refine ⟨rfl, _, hC, ⟨fun a h0 h4 => by rw [up_ne _ h0, up_ne _ h4], fun i hi => by rw [up_same, up1_ne _ hi, up_ne _ (by decide)]⟩, ?_, ?_⟩
  · rw [up_same, up1_same, h0, List.length_append]; simp
  · rw [List.length_append, List.length_singleton, seg_snoc, up_ne _ (by decide), up_same, Int.zero_add, h0, up1_same]
    congr 1
    rw [seg_congr (g := s 4) (fun k k0 k1 => up1_ne _ (by omega) _)]
    exact hp.2
end PR
