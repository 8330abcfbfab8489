/-! THE CLASS'S WORLD: its other cells. State s: s 0 ints (0 printed length, 1 and 2 rows and columns of the minors, 3 count, 4 width), s 1 numbers of the seven matrices, s 2 rows, s 3 columns, s 4 letters, s 5 leads, s 6 the order of the stairs' rows -/
theorem SN_set {w1 w : ax_W} {v : Nat → Int} {L Z j : Nat} {q q' : Nat × List Value} (h : SN w1 w v L Z) (hq : w1[j]? = some q) (hj : ¬ isWh j) (hd : ∀ c, isWh c → j ≠ c + 1) (hc : ax_cs q' = ax_cs q) : SN (w1.set j q') (w.set j q') v L Z := by
  obtain ⟨t, ⟨h1, h2, h3, h4, h5, h6⟩, hv⟩ := h
  have hl : j < w1.length := (List.getElem?_eq_some_iff.mp hq).1
  have hwq : w[j]? = some q := by rw [h2 j hl hj hd]; exact hq
  refine ⟨t, ⟨by simpa using h1, fun i hi hw hdi => ?_, fun c hcw => ?_, h4, by simpa using h5, by rw [sz_set hwq hc]; exact h6⟩, hv⟩
  · by_cases e : i = j
    · subst e
      rw [List.getElem?_set_self (by omega), List.getElem?_set_self hl]
    · rw [List.getElem?_set_ne (fun e' => e e'.symm), List.getElem?_set_ne (fun e' => e e'.symm)]
      exact h2 i (by simpa using hi) hw hdi
  · obtain ⟨a1, a2, a3⟩ := h3 c hcw
    have n1 : j ≠ c := fun e => hj (e ▸ hcw)
    have n2 : j ≠ (t c).1 := by have := hd c hcw; omega
    exact ⟨by rw [List.getElem?_set_ne n1]; exact a1, by rw [List.getElem?_set_ne n2]; exact a2, by simpa using a3⟩
/-- the contents of the cells that change -/
def cs (s : mo_S) (k : Nat) : Nat × List Value :=
  if k < 7 then (2, [.ref (3 + 2 * k), .int (jI (s 2 k)), .int (jI (s 3 k))])
  else if k < 14 then (21, aL 36 (fun i => s 1 (36 * ((k : Int) - 7) + i)))
  else if k = 14 then (4, [.ref 17, .int (jI (s 0 0))])
  else if k = 15 then (22, aI 256 (s 4))
  else if k = 16 then (3, [.ref 18, .ref 30, .ref 103, .int (jI (s 0 1)), .int (jI (s 0 2))])
  else if k = 17 then (6, [.ref 18, .ref 233, .ref 235, .ref 418, .int (jI (s 0 3)), .int (jI (s 0 4))])
  else if k = 18 then (35, (List.range 7).map (fun (i : Nat) => .ref (236 + 26 * (s 6 i).toNat)))
  else (20, aI 7 (s 5))
/-- their places -/
def mcl (k : Nat) : Nat := if k < 7 then 2 + 2 * k else if k < 14 then 3 + 2 * (k - 7) else if k = 14 then 16 else if k = 15 then 17 else if k = 16 then 29 else if k = 17 then 232 else if k = 18 then 235 else 418
theorem mcl_no : ∀ k : Fin 20, isWb (mcl k) = false ∧ (mcl k = 0 ∨ isWb (mcl k - 1) = false) ∧ mcl k < 425 := by decide
theorem mcl_inj : ∀ k j : Fin 20, mcl k = mcl j → k = j := by decide
theorem mcl_nw {k : Nat} (hk : k < 20) : ¬ isWh (mcl k) ∧ ∀ c, isWh c → mcl k ≠ c + 1 := by
  have h := mcl_no ⟨k, hk⟩
  simp only at h
  refine ⟨fun e => ?_, fun c hc e => ?_⟩
  · unfold isWh at e; rw [h.1] at e; simp at e
  · rw [e] at h
    have := h.2.1
    unfold isWh at hc
    rw [Nat.add_sub_cancel, hc] at this
    simp at this
/-- the constant cells of the class -/
def Cst (w : ax_W) : Prop := 438 ≤ w.length ∧ w[0]? = some (0, [.ref 1, .ref 14, .ref 16, .ref 18, .ref 29, .ref 232, .ref 419, .ref 421, .ref 423]) ∧ w[1]? = some (32, (List.range 6).map (fun (m : Nat) => .ref (2 + 2 * m))) ∧ w[18]? = some (1, [.ref 19, .ref 21, .ref 23, .ref 25, .ref 27]) ∧ w[30]? = some (37, (List.range 36).map (fun (i : Nat) => .ref (31 + 2 * i))) ∧ w[103]? = some (37, (List.range 64).map (fun (i : Nat) => .ref (104 + 2 * i))) ∧ ∀ i : Nat, i < 7 → w[236 + 26 * i]? = some (5, [.ref (237 + 26 * i)]) ∧ w[237 + 26 * i]? = some (37, (List.range 12).map (fun (j : Nat) => .ref (238 + 26 * i + 2 * j)))
/-- the class's world: state s, numbers v; the rest is as in w0 -/
def CW (w0 w : ax_W) (s : mo_S) (v : Nat → Int) (L Z : Nat) : Prop := ∃ w1, SN w1 w v L Z ∧ Cst w1 ∧ (∀ j, 425 ≤ j → j < w0.length → w1[j]? = w0[j]?) ∧ w1.length = w0.length ∧ ∀ k, k < 20 → w1[mcl k]? = some (cs s k)
theorem CW_get {w0 w : ax_W} {s : mo_S} {v : Nat → Int} {L Z k : Nat} (h : CW w0 w s v L Z) (hk : k < 20) : w[mcl k]? = some (cs s k) := by
  obtain ⟨w1, hS, hC, hr, hl, hm⟩ := h
  exact SN_const hS (hm k hk) (mcl_nw hk).1 (mcl_nw hk).2
theorem cs_size (s s' : mo_S) (k : Nat) : ax_cs (cs s' k) = ax_cs (cs s k) := by
  unfold cs
  split
  · rfl
  · split
    · simp [ax_cs, aL_len]
    · split
      · rfl
      · split
        · simp [ax_cs, aI_len]
        · split
          · rfl
          · split
            · rfl
            · split
              · simp [ax_cs]
              · simp [ax_cs, aI_len]
