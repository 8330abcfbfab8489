/-! THE CLASS: long division -/
theorem gss_ok {d1 d2 st u2 dg P U V Ul Vl : Int} (h : gss d1 d2 st u2 dg) (P0 : 0 < P) (hU : U = Ul + P * (st * 1000000000 + u2)) (Ul0 : 0 ≤ Ul) (Ul1 : Ul < P) (hV : V = Vl + P * (d1 * 1000000000 + d2)) (Vl0 : 0 ≤ Vl) (Vl1 : Vl < P) (hUV : U < 1000000000 * V) (U0 : 0 ≤ U) (d13 : 1000000000 ≤ 3 * d1) (d20 : 0 ≤ d2) (u20 : 0 ≤ u2) (u21 : u2 < 1000000000) (d21 : d2 < 1000000000) : U / V ≤ dg ∧ dg ≤ U / V + 1 := by
  obtain ⟨g0, g1, gA, gB⟩ := h
  have Vt0 : 0 < d1 * 1000000000 + d2 := by omega
  have V0 : 0 < V := by have := Int.mul_pos P0 Vt0; omega
  have e := Int.emod_add_mul_ediv U V
  have m0 := Int.emod_nonneg U (show V ≠ 0 by omega)
  have m1 := Int.emod_lt_of_pos U V0
  have q0 : 0 ≤ U / V := Int.ediv_nonneg U0 (by omega)
  have q1 : U / V < 1000000000 := Int.ediv_lt_of_lt_mul V0 hUV
  generalize hq : U / V = q at *
  have hqV : q * V ≤ U := by rw [Int.mul_comm]; omega
  have hqV1 : U < (q + 1) * V := by rw [Int.add_mul, Int.mul_comm q]; omega
  generalize hVt : d1 * 1000000000 + d2 = Vt at *
  generalize hUt : st * 1000000000 + u2 = Ut at *
  constructor
  · refine gA q ?_ (by omega)
    refine Classical.byContradiction (fun hn => ?_)
    have h1 : (Ut + 1) * P ≤ (q * Vt) * P := Int.mul_le_mul_of_nonneg_right (by omega) (by omega)
    have h2 : q * V = q * Vl + (q * Vt) * P := by rw [hV]; grind
    have h3 := Int.mul_nonneg q0 Vl0
    have h4 : (Ut + 1) * P = P * Ut + P := by grind
    omega
  · refine Classical.byContradiction (fun hn => ?_)
    rcases gB with h | h
    · have h1 : (q + 2) * Vt ≤ dg * Vt := Int.mul_le_mul_of_nonneg_right (by omega) (by omega)
      have h2 : ((q + 2) * Vt) * P ≤ Ut * P := Int.mul_le_mul_of_nonneg_right (by omega) (by omega)
      have h30 : (Vt + 1) * P = P * Vt + P := by grind
      have h31 : V < (Vt + 1) * P := by omega
      have h3 : (q + 1) * V < (q + 1) * ((Vt + 1) * P) := Int.mul_lt_mul_of_pos_left h31 (by omega)
      have h4 : P * Ut = Ut * P := Int.mul_comm ..
      have h5 : ((q + 2) * Vt) * P < ((q + 1) * (Vt + 1)) * P := by rw [Int.mul_assoc (q + 1)]; omega
      have h6 := Int.lt_of_mul_lt_mul_right h5 (by omega)
      have h7 : (q + 2) * Vt = q * Vt + 2 * Vt := by grind
      have h8 : (q + 1) * (Vt + 1) = q * Vt + q + Vt + 1 := by grind
      omega
    · have h1 : (q + 4) * d1 ≤ (dg + 2) * d1 := Int.mul_le_mul_of_nonneg_right (by omega) (by omega)
      have h2 : ((q + 4) * d1) * (1000000000 * P) ≤ st * (1000000000 * P) := Int.mul_le_mul_of_nonneg_right (by omega) (by omega)
      have h9 : (d1 + 1) * (1000000000 * P) = P * (d1 * 1000000000 + 999999999) + P := by grind
      have h10 : P * Vt ≤ P * (d1 * 1000000000 + 999999999) := Int.mul_le_mul_of_nonneg_left (by omega) (by omega)
      have h31 : V < (d1 + 1) * (1000000000 * P) := by omega
      have h3 : (q + 1) * V < (q + 1) * ((d1 + 1) * (1000000000 * P)) := Int.mul_lt_mul_of_pos_left h31 (by omega)
      have h4 : st * (1000000000 * P) ≤ U := by
        have h9 : P * Ut = st * (1000000000 * P) + P * u2 := by rw [← hUt]; grind
        have h10 := Int.mul_nonneg (Int.le_of_lt P0) u20
        omega
      have h5 : ((q + 4) * d1) * (1000000000 * P) < ((q + 1) * (d1 + 1)) * (1000000000 * P) := by rw [Int.mul_assoc (q + 1)]; omega
      have h6 := Int.lt_of_mul_lt_mul_right h5 (by omega)
      have h7 : (q + 4) * d1 = q * d1 + 4 * d1 := by grind
      have h8 : (q + 1) * (d1 + 1) = q * d1 + q + d1 + 1 := by grind
      omega
/-- a number's digits from i on, and its top three -/
theorem dw_top3 {f : Int → Int} {i m : Nat} (hm : 2 ≤ m) : dvB 1000000000 f i (m + 1) = dvB 1000000000 f i (m - 2) + 1000000000 ^ (m - 2) * ((f (i + m : Nat) * 1000000000 + f (i + m - 1 : Nat)) * 1000000000 + f (i + m - 2 : Nat)) := by
  have e : m + 1 = (m - 2) + 3 := by omega
  rw [e, dvB_split]
  congr 1
  congr 1
  simp only [dvB]
  have e0 : (i : Int) + ((m - 2 : Nat) : Int) + ((0 : Nat) : Int) = ((i + m - 2 : Nat) : Int) := by omega
  have e1 : (i : Int) + ((m - 2 : Nat) : Int) + ((1 : Nat) : Int) = ((i + m - 1 : Nat) : Int) := by omega
  have e2 : (i : Int) + ((m - 2 : Nat) : Int) + ((2 : Nat) : Int) = ((i + m : Nat) : Int) := by omega
  rw [e0, e1, e2]
  grind
theorem dw_top2 {g : Int → Int} {m : Nat} (hm : 2 ≤ m) : dw g m = dw g (m - 2) + 1000000000 ^ (m - 2) * (g (m - 1 : Nat) * 1000000000 + g (m - 2 : Nat)) := by
  unfold dw
  have e : m = (m - 2) + 2 := by omega
  have := dvB_split 1000000000 g 0 (m - 2) 2
  rw [← e] at this
  rw [this]
  congr 1
  congr 1
  simp only [dvB]
  have e0 : (0 : Int) + ((m - 2 : Nat) : Int) + ((0 : Nat) : Int) = ((m - 2 : Nat) : Int) := by omega
  have e1 : (0 : Int) + ((m - 2 : Nat) : Int) + ((1 : Nat) : Int) = ((m - 1 : Nat) : Int) := by omega
  rw [e0, e1]
  grind
theorem dw_at {f : Int → Int} {i m : Nat} : dw f (i + m) = dw f i + 1000000000 ^ i * dvB 1000000000 f i m := by
  unfold dw; rw [dvB_split, Int.zero_add]
theorem SW_TW' {w0 w : ax_W} {t : Nat → WD} {L Z c d cap : Nat} {f : Int → Int} {n b : Int} (h : SW w0 w t L Z) (hc : isWh c) (e : t c = (d, cap, f, n, b)) : TW w w c d cap f n b := by
  have := SW_TW h hc; rw [e] at this; exact this
theorem SW_OW' {w0 w : ax_W} {t : Nat → WD} {L Z c d cap a e cp : Nat} {f g : Int → Int} {n b m q : Int} (h : SW w0 w t L Z) (hc : isWh c) (ha : isWh a) (hne : a ≠ c) (ec : t c = (d, cap, f, n, b)) (ea : t a = (e, cp, g, m, q)) : OW w c d a e cp g m q := by
  have := SW_OW h hc ha hne; rw [ec, ea] at this; exact this
theorem SW_back' {w0 w w1 w' : ax_W} {t : Nat → WD} {L Z c d cap d' cap' : Nat} {f f' : Int → Int} {n b n' b' : Int} (h : SW w0 w t L Z) (hc : isWh c) (ec : t c = (d, cap, f, n, b)) (hT : TW w1 w' c d' cap' f' n' b') (hX : XT w w1 c d d' cap cap') : ∃ t', SW w0 w' t' L Z ∧ t' c = (d', cap', f', n', b') ∧ ∀ j, j ≠ c → t' j = t j :=
  ⟨_, SW_back h hc hT (by rw [ec]; exact hX), upT_same .., fun j hj => upT_ne _ hj _⟩
theorem SW_const {w0 w : ax_W} {t : Nat → WD} {L Z : Nat} (h : SW w0 w t L Z) {j : Nat} {q : Nat × List Value} (hq : w0[j]? = some q) (hj : ¬ isWh j) (hd : ∀ c, isWh c → j ≠ c + 1) : w[j]? = some q := by
  rw [h.2.1 j (List.getElem?_eq_some_iff.mp hq).1 hj hd]; exact hq
theorem no18 : ¬ isWh 18 ∧ ∀ c, isWh c → 18 ≠ c + 1 := ⟨fun h => by have := isWh_iff.mp h; omega, fun c h => by have := isWh_iff.mp h; omega⟩
