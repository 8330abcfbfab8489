/-! THE LAW: both worlds in one -/
theorem CW_len {w0 w : ax_W} {s : mo_S} {v : Nat → Int} {L Z : Nat} (h : CW w0 w s v L Z) : 438 ≤ w0.length ∧ w0.length ≤ w.length := by
  obtain ⟨w1, ⟨t, S, _⟩, _, _, hl', _⟩ := h
  have := S.1
  omega
theorem w_no {j : Nat} (h : 425 ≤ j) : ¬ isWh j ∧ ∀ c, isWh c → j ≠ c + 1 := ⟨fun e => by have := isWh_lt e; omega, fun c hc => by have := isWh_lt hc; omega⟩
/-- what the class does not touch -/
theorem CW_out {w0 w : ax_W} {s : mo_S} {v : Nat → Int} {L Z : Nat} (h : CW w0 w s v L Z) {j : Nat} (h1 : 425 ≤ j) (h2 : j < 438) : w[j]? = w0[j]? := by
  have hlen := CW_len h
  obtain ⟨w1, ⟨t, S, _⟩, _, hr, hl', _⟩ := h
  have := w_no h1
  rw [S.2.1 j (by omega) this.1 this.2, hr j h1 (by omega)]
theorem CW_frame {w0 w w' : ax_W} {s : mo_S} {v : Nat → Int} {L Z : Nat} (h : CW w0 w s v L Z) (hl : w'.length = w.length) (h1 : ∀ j, j < 425 → w'[j]? = w[j]?) (h2 : ∀ j, 438 ≤ j → w'[j]? = w[j]?) (hz : ax_sz w' = ax_sz w) : ∃ w0', CW w0' w' s v L Z := by
  have hlen := CW_len h
  obtain ⟨w1, ⟨t, ⟨s1, s2, s3, s4, s5, s6⟩, hv⟩, ⟨c0, c1, c2, c3, c4, c5, c6⟩, hr, hl', hm⟩ := h
  obtain ⟨F, hF⟩ : ∃ F : Nat → Nat × List Value, F = fun j => if 425 ≤ j ∧ j < 438 then (w'[j]?).getD (0, []) else (w1[j]?).getD (0, []) := ⟨_, rfl⟩
  have at1 : ∀ j, j < w1.length → ((List.range w1.length).map F)[j]? = some (F j) := fun j hj => by simp [hj]
  have lo' : ∀ j, j < w1.length → ¬ (425 ≤ j ∧ j < 438) → ((List.range w1.length).map F)[j]? = w1[j]? := fun j hj hn => by
    rw [at1 j hj, hF]
    simp only [hn, if_false]
    rw [List.getElem?_eq_getElem hj]; rfl
  have mid' : ∀ j, 425 ≤ j → j < 438 → ((List.range w1.length).map F)[j]? = w'[j]? := fun j a b => by
    rw [at1 j (by omega), hF]
    simp only [a, b, and_self, if_true]
    rw [List.getElem?_eq_getElem (show j < w'.length by omega)]; rfl
  have low : ∀ j, j < 425 → ((List.range w1.length).map F)[j]? = w1[j]? := fun j hj => lo' j (by omega) (by omega)
  have hln : ((List.range w1.length).map F).length = w1.length := by simp
  refine ⟨(List.range w1.length).map F, (List.range w1.length).map F, ⟨t, ⟨by rw [hln]; omega, fun j hj hw hd => ?_, fun c hc => ?_, s4, by rw [hl]; exact s5, by rw [hz]; exact s6⟩, hv⟩, ⟨by rw [hln]; omega, ?_, ?_, ?_, ?_, ?_, fun i hi => ?_⟩, fun _ _ _ => rfl, rfl, fun k hk => ?_⟩
  · rw [hln] at hj
    by_cases e : 425 ≤ j ∧ j < 438
    · rw [mid' j e.1 e.2]
    · rw [lo' j hj e, ← s2 j hj hw hd]
      by_cases e' : j < 425
      · exact h1 j e'
      · exact h2 j (by omega)
  · have hlt := isWh_lt hc
    obtain ⟨a, b, d⟩ := s3 c hc
    refine ⟨by rw [h1 c (by omega)]; exact a, ?_, by rw [hln]; exact d⟩
    rcases d with d | d
    · rw [h1 _ (by omega)]; exact b
    · rw [h2 _ (by omega)]; exact b
  · rw [low _ (by omega)]; exact c1
  · rw [low _ (by omega)]; exact c2
  · rw [low _ (by omega)]; exact c3
  · rw [low _ (by omega)]; exact c4
  · rw [low _ (by omega)]; exact c5
  · exact ⟨by rw [low _ (by omega)]; exact (c6 i hi).1, by rw [low _ (by omega)]; exact (c6 i hi).2⟩
  · have := (mcl_no ⟨k, hk⟩).2.2
    simp only at this
    rw [low _ this]; exact hm k hk
theorem CW_app {w0 w : ax_W} {s : mo_S} {v : Nat → Int} {L Z t0 : Nat} (h : CW w0 w s v L Z) (ht : t0 = 9 ∨ t0 = 10) : CW w0 (w ++ [(t0, [])]) s v (L + 1) (Z + 198) := by
  obtain ⟨w1, ⟨t, ⟨s1, s2, s3, s4, s5, s6⟩, hv⟩, hc, hr, hl', hm⟩ := h
  have lt : ∀ j, j < w.length → (w ++ [(t0, ([] : List Value))])[j]? = w[j]? := fun j hj => List.getElem?_append_left hj
  refine ⟨w1, ⟨t, ⟨⟨s1.1, by rw [List.length_append]; omega⟩, fun j hj hw hd => ?_, fun c hcw => ?_, s4, by rw [List.length_append, List.length_singleton]; omega, ?_⟩, hv⟩, hc, hr, hl', hm⟩
  · rw [lt j (by omega)]; exact s2 j hj hw hd
  · obtain ⟨a, b, d⟩ := s3 c hcw
    exact ⟨by rw [lt c (List.getElem?_eq_some_iff.mp a).1]; exact a, by rw [lt _ (List.getElem?_eq_some_iff.mp b).1]; exact b, d⟩
  · have : ax_sz (w ++ [(t0, ([] : List Value))]) = ax_sz w + 6 := by rcases ht with e | e <;> subst e <;> simp [ax_sz, ax_cs]
    omega
theorem CW_more {w0 w : ax_W} {s : mo_S} {v : Nat → Int} {L Z L' Z' : Nat} (h : CW w0 w s v L Z) (hL : L ≤ L') (hZ : Z ≤ Z') : CW w0 w s v L' Z' := by
  obtain ⟨w1, ⟨t, ⟨s1, s2, s3, s4, s5, s6⟩, hv⟩, hc, hr, hl', hm⟩ := h
  exact ⟨w1, ⟨t, ⟨s1, s2, s3, s4, by omega, by omega⟩, hv⟩, hc, hr, hl', hm⟩
theorem sum_le {g h : Nat → Nat} : ∀ n, (∀ j, j < n → g j ≤ h j) → ((List.range n).map g).sum ≤ ((List.range n).map h).sum
  | 0, _ => by simp
  | n + 1, hg => by
    have ih := sum_le n (fun j hj => hg j (by omega))
    have := hg n (by omega)
    rw [List.range_succ, List.map_append, List.map_append, List.sum_append, List.sum_append]
    simp only [List.map_cons, List.map_nil, List.sum_cons, List.sum_nil, Nat.add_zero]
    omega
theorem sumW_le {g h : Nat → Nat} (hg : ∀ c, isWh c → g c ≤ h c) : sumW g ≤ sumW h := by
  unfold sumW
  refine sum_le 425 (fun j _ => ?_)
  by_cases e : isWb j
  · rw [if_pos e, if_pos e]; exact hg j e
  · rw [if_neg e, if_neg e]; exact Nat.le_refl _
theorem sumW_cap : sumW capB ≤ 91100 ∧ sumW (fun c => capB c * capB c) ≤ 52330000 := by decide +kernel
/-- the room -/
theorem CW_room {w0 w : ax_W} {s : mo_S} {v : Nat → Int} {L Z : Nat} (h : CW w0 w s v L Z) : w.length ≤ L + 91100 ∧ 33 * ax_sz w ≤ Z + 52330000 := by
  obtain ⟨w1, ⟨t, ⟨s1, s2, s3, s4, s5, s6⟩, hv⟩, hc, hr, hl', hm⟩ := h
  have a := sumW_le (g := fun c => (t c).2.1) (h := capB) (fun c hc => (hv c hc).2.2.2)
  have b := sumW_le (g := fun c => (t c).2.1 * (t c).2.1) (h := fun c => capB c * capB c) (fun c hc => Nat.mul_le_mul (hv c hc).2.2.2 (hv c hc).2.2.2)
  have := sumW_cap
  omega
/-! the start -/
def cl0 : mo_S := fun a i => match a with
  | 2 => 1
  | 3 => 1
  | 6 => i
  | _ => 0
theorem wv0 : Wv (fun _ => 0) 0 0 0 := ⟨0, rfl, fun i hi => by omega, fun k hk => by omega, Or.inl ⟨rfl, rfl⟩⟩
theorem cls_start {w : ax_W} (h : clsA w) (hlen : 438 ≤ w.length) : ∃ v, CW w w cl0 v w.length (33 * ax_sz w) ∧ okC cl0 v := by
  obtain ⟨h0, h1, hm, ⟨hp, hp'⟩, hd, ⟨g1, g2, g3⟩, ⟨s1, s2, s3, s4⟩, hw, ⟨f1, n1, b1, o1, o2, o3, o4⟩, ⟨f2, n2, b2, q1, q2, q3, q4⟩⟩ := h
  obtain ⟨t, t27, t104, tc⟩ : ∃ t : Nat → WD, t 27 = (28, 32, f1, n1, b1) ∧ t 104 = (105, 32, f2, n2, b2) ∧ ∀ c, c ≠ 27 → c ≠ 104 → t c = (c + 1, 32, fun _ => 0, 0, 0) := ⟨fun c => if c = 27 then (28, 32, f1, n1, b1) else if c = 104 then (105, 32, f2, n2, b2) else (c + 1, 32, fun _ => 0, 0, 0), by simp, by simp, fun c e1 e2 => by simp [e1, e2]⟩
  have t1 : ∀ c, (t c).1 = c + 1 := fun c => by
    by_cases e : c = 27
    · subst e; rw [t27]
    · by_cases e' : c = 104
      · subst e'; rw [t104]
      · rw [tc c e e']
  obtain ⟨v, v27, v104, vc⟩ : ∃ v : Nat → Int, v 27 = 1 ∧ v 104 = 1 ∧ ∀ c, c ≠ 27 → c ≠ 104 → v c = 0 := ⟨fun c => if c = 27 ∨ c = 104 then 1 else 0, by simp, by simp, fun c e1 e2 => by simp [e1, e2]⟩
  refine ⟨v, ⟨w, ⟨t, ⟨⟨hlen, Nat.le_refl _⟩, fun _ _ _ _ => rfl, fun c hc => ?_, fun c c' hc hc' e => ?_, by omega, by omega⟩, fun c hc => ?_⟩, ⟨hlen, h0, h1, hd, g2, g3, fun i hi => s3 i hi⟩, fun _ _ _ => rfl, rfl, fun k hk => ?_⟩, ⟨?_, v27, v104, fun i hi => ?_, fun i j _ _ e => ?_, by decide, by decide⟩⟩
  · by_cases e : c = 27
    · subst e; rw [t27]; exact ⟨o1, o2, Or.inl rfl⟩
    · by_cases e' : c = 104
      · subst e'; rw [t104]; exact ⟨q1, q2, Or.inl rfl⟩
      · rw [tc c e e']
        have := hw c hc e e'
        exact ⟨this.1, this.2, Or.inl rfl⟩
  · rw [t1, t1] at e
    omega
  · have hcap : 32 ≤ capB c := by unfold capB; split <;> omega
    by_cases e : c = 27
    · subst e; rw [t27, v27]; exact ⟨o3, o4, Nat.le_refl _, hcap⟩
    · by_cases e' : c = 104
      · subst e'; rw [t104, v104]; exact ⟨q3, q4, Nat.le_refl _, hcap⟩
      · rw [tc c e e', vc c e e']; exact ⟨wv0, by show (0 : Int) ≤ ((32 : Nat) : Int); decide, Nat.le_refl _, hcap⟩
  · have : k < 7 ∨ (7 ≤ k ∧ k < 14) ∨ k = 14 ∨ k = 15 ∨ k = 16 ∨ k = 17 ∨ k = 18 ∨ k = 19 := by omega
    rcases this with e | e | e | e | e | e | e | e
    · unfold mcl cs; rw [if_pos e, if_pos e]; exact (hm k e).1
    · unfold mcl cs; rw [if_neg (by omega), if_pos e.2, if_neg (by omega), if_pos e.2]; exact (hm (k - 7) (by omega)).2
    · subst e; exact hp
    · subst e; exact hp'
    · subst e; exact g1
    · subst e; exact s1
    · subst e; exact s2
    · subst e; exact s4
  · refine ⟨fun m m0 m1 => ?_, fun m m0 m1 => ?_, fun x x0 x1 => ?_⟩
    · rw [rf_5 _ m0 m1]; show (1 : Int) ≤ 1 ∧ (1 : Int) ≤ 6; decide
    · rw [rf_6 _ m0 m1]; show (1 : Int) ≤ 1 ∧ (1 : Int) ≤ 6; decide
    · rw [rf_4 _ x0 x1]; show -1000000000000000000 < (0 : Int) ∧ (0 : Int) < 1000000000000000000; decide
  · show 0 ≤ (i : Int) ∧ (i : Int) < 7
    omega
  · have : (i : Int) = (j : Int) := e
    omega
theorem mo0_Bg : Bg mo0 (fun _ => 0) := fun k _ _ => ⟨0, 0, ⟨rfl, by omega, fun i hi => by omega, fun j hj => by omega, rfl⟩, Or.inl ⟨rfl, rfl⟩⟩
