/-! THE CLASS'S WORLD: stores and reads -/
theorem mcl_cst : ∀ k : Fin 20, mcl k ≠ 0 ∧ mcl k ≠ 1 ∧ mcl k ≠ 18 ∧ mcl k ≠ 30 ∧ mcl k ≠ 103 ∧ ∀ i : Fin 7, mcl k ≠ 236 + 26 * i ∧ mcl k ≠ 237 + 26 * i := by decide
theorem CW_set {w0 w : ax_W} {s s' : mo_S} {v : Nat → Int} {L Z k : Nat} (h : CW w0 w s v L Z) (hk : k < 20) (hs : ∀ j, j < 20 → j ≠ k → cs s' j = cs s j) {q : Nat × List Value} (hq : q = cs s' k) : CW w0 (w.set (mcl k) q) s' v L Z := by
  subst hq
  obtain ⟨w1, hS, ⟨c0, c1, c2, c3, c4, c5, c6⟩, hr, hl, hm⟩ := h
  have hnw := mcl_nw hk
  have hcs := mcl_cst ⟨k, hk⟩
  have hno := mcl_no ⟨k, hk⟩
  simp only at hcs hno
  obtain ⟨e1, e2, e3, e4, e5, e6⟩ := hcs
  refine ⟨w1.set (mcl k) (cs s' k), SN_set hS (hm k hk) hnw.1 hnw.2 (cs_size s s' k), ⟨by simpa using c0, ?_, ?_, ?_, ?_, ?_, fun i hi => ⟨?_, ?_⟩⟩, fun j hj1 hj2 => ?_, by simpa using hl, fun j hj => ?_⟩
  · rw [List.getElem?_set_ne e1]; exact c1
  · rw [List.getElem?_set_ne e2]; exact c2
  · rw [List.getElem?_set_ne e3]; exact c3
  · rw [List.getElem?_set_ne e4]; exact c4
  · rw [List.getElem?_set_ne e5]; exact c5
  · rw [List.getElem?_set_ne (e6 ⟨i, hi⟩).1]; exact (c6 i hi).1
  · rw [List.getElem?_set_ne (e6 ⟨i, hi⟩).2]; exact (c6 i hi).2
  · rw [List.getElem?_set_ne (by omega)]; exact hr j hj1 hj2
  · by_cases e : j = k
    · subst e
      rw [List.getElem?_set_self (List.getElem?_eq_some_iff.mp (hm j hj)).1]
    · rw [List.getElem?_set_ne (fun e' => e (by have := mcl_inj ⟨k, hk⟩ ⟨j, hj⟩ e'; simp at this; exact this.symm)), hm j hj, hs j hj e]
/-- a number's change -/
theorem CW_SN {w0 w : ax_W} {s : mo_S} {v : Nat → Int} {L Z : Nat} (h : CW w0 w s v L Z) : ∃ w1, SN w1 w v L Z ∧ w1[18]? = some (1, [.ref 19, .ref 21, .ref 23, .ref 25, .ref 27]) ∧ ∀ w' v', SN w1 w' v' L Z → CW w0 w' s v' L Z := by
  obtain ⟨w1, hS, hC, hr, hl, hm⟩ := h
  exact ⟨w1, hS, hC.2.2.2.1, fun w' v' h' => ⟨w1, h', hC, hr, hl, hm⟩⟩
theorem nW {j : Nat} (h : isWb j = false) (h' : j = 0 ∨ isWb (j - 1) = false) : ¬ isWh j ∧ ∀ c, isWh c → j ≠ c + 1 := by
  refine ⟨fun e => ?_, fun c hc e => ?_⟩
  · unfold isWh at e; rw [h] at e; simp at e
  · unfold isWh at hc
    rw [e, Nat.add_sub_cancel, hc] at h'
    simp at h'
theorem nW_row : ∀ i : Fin 7, (isWb (236 + 26 * i) = false ∧ isWb (236 + 26 * i - 1) = false) ∧ isWb (237 + 26 * i) = false ∧ isWb (237 + 26 * i - 1) = false := by decide
theorem CW_cst {w0 w : ax_W} {s : mo_S} {v : Nat → Int} {L Z : Nat} (h : CW w0 w s v L Z) : Cst w := by
  obtain ⟨w1, hS, ⟨c0, c1, c2, c3, c4, c5, c6⟩, hr, hl, hm⟩ := h
  have hlen : w1.length ≤ w.length := by obtain ⟨t, S, _⟩ := hS; exact S.1.2
  refine ⟨by omega, ?_, ?_, ?_, ?_, ?_, fun i hi => ?_⟩
  · exact SN_const hS c1 (nW rfl (Or.inl rfl)).1 (nW rfl (Or.inl rfl)).2
  · exact SN_const hS c2 (nW rfl (Or.inr rfl)).1 (nW rfl (Or.inr rfl)).2
  · exact SN_const hS c3 (nW rfl (Or.inr rfl)).1 (nW rfl (Or.inr rfl)).2
  · exact SN_const hS c4 (nW rfl (Or.inr rfl)).1 (nW rfl (Or.inr rfl)).2
  · exact SN_const hS c5 (nW rfl (Or.inr rfl)).1 (nW rfl (Or.inr rfl)).2
  · have hh := nW_row ⟨i, hi⟩
    simp only at hh
    exact ⟨SN_const hS (c6 i hi).1 (nW hh.1.1 (Or.inr hh.1.2)).1 (nW hh.1.1 (Or.inr hh.1.2)).2, SN_const hS (c6 i hi).2 (nW hh.2.1 (Or.inr hh.2.2)).1 (nW hh.2.1 (Or.inr hh.2.2)).2⟩
/-! the cells by name -/
section CELLS
variable {w0 w : ax_W} {s : mo_S} {v : Nat → Int} {L Z : Nat}
theorem C_mat (h : CW w0 w s v L Z) {m : Nat} (hm : m < 7) : w[2 + 2 * m]? = some (2, [.ref (3 + 2 * m), .int (jI (s 2 m)), .int (jI (s 3 m))]) := by
  have := CW_get h (k := m) (by omega)
  unfold mcl cs at this; rw [if_pos hm, if_pos hm] at this; exact this
theorem C_num (h : CW w0 w s v L Z) {m : Nat} (hm : m < 7) : w[3 + 2 * m]? = some (21, aL 36 (fun i => s 1 (36 * (m : Int) + i))) := by
  have := CW_get h (k := m + 7) (by omega)
  unfold mcl cs at this
  rw [if_neg (by omega), if_pos (by omega), if_neg (by omega), if_pos (by omega), show m + 7 - 7 = m by omega] at this
  rw [this]
  rw [show (((m + 7 : Nat) : Int) - 7) = (m : Int) by omega]
theorem C_print (h : CW w0 w s v L Z) : w[16]? = some (4, [.ref 17, .int (jI (s 0 0))]) := CW_get h (k := 14) (by decide)
theorem C_letters (h : CW w0 w s v L Z) : w[17]? = some (22, aI 256 (s 4)) := CW_get h (k := 15) (by decide)
theorem C_minors (h : CW w0 w s v L Z) : w[29]? = some (3, [.ref 18, .ref 30, .ref 103, .int (jI (s 0 1)), .int (jI (s 0 2))]) := CW_get h (k := 16) (by decide)
theorem C_stairs (h : CW w0 w s v L Z) : w[232]? = some (6, [.ref 18, .ref 233, .ref 235, .ref 418, .int (jI (s 0 3)), .int (jI (s 0 4))]) := CW_get h (k := 17) (by decide)
theorem C_rows (h : CW w0 w s v L Z) : w[235]? = some (35, (List.range 7).map (fun (i : Nat) => .ref (236 + 26 * (s 6 i).toNat))) := CW_get h (k := 18) (by decide)
theorem C_leads (h : CW w0 w s v L Z) : w[418]? = some (20, aI 7 (s 5)) := CW_get h (k := 19) (by decide)
theorem C_upd0 (h : CW w0 w s v L Z) {k i : Nat} {x : Int} (hk : (k = 14 ∧ i = 0) ∨ (k = 16 ∧ (i = 1 ∨ i = 2)) ∨ (k = 17 ∧ (i = 3 ∨ i = 4))) : CW w0 (w.set (mcl k) (cs (up s 0 i x) k)) (up s 0 i x) v L Z := by
  refine CW_set h (by omega) (fun j hj hne => ?_) rfl
  unfold cs
  have e1 : up s 0 i x 1 = s 1 := up_ne _ (by decide) _ _
  have e2 : up s 0 i x 2 = s 2 := up_ne _ (by decide) _ _
  have e3 : up s 0 i x 3 = s 3 := up_ne _ (by decide) _ _
  have e4 : up s 0 i x 4 = s 4 := up_ne _ (by decide) _ _
  have e5 : up s 0 i x 5 = s 5 := up_ne _ (by decide) _ _
  have e6 : up s 0 i x 6 = s 6 := up_ne _ (by decide) _ _
  have e0 : ∀ y : Int, y ≠ i → up s 0 i x 0 y = s 0 y := fun y hy => by rw [up_same, up1_ne _ hy]
  rw [e1, e2, e3, e4, e5, e6]
  rcases hk with ⟨rfl, rfl⟩ | ⟨rfl, rfl | rfl⟩ | ⟨rfl, rfl | rfl⟩
  · rw [e0 1 (by decide), e0 2 (by decide), e0 3 (by decide), e0 4 (by decide)]
    simp only [hne, if_false]
  · rw [e0 0 (by decide), e0 3 (by decide), e0 4 (by decide)]
    simp only [hne, if_false]
  · rw [e0 0 (by decide), e0 3 (by decide), e0 4 (by decide)]
    simp only [hne, if_false]
  · rw [e0 0 (by decide), e0 1 (by decide), e0 2 (by decide)]
    simp only [hne, if_false]
  · rw [e0 0 (by decide), e0 1 (by decide), e0 2 (by decide)]
    simp only [hne, if_false]
end CELLS
