/-! THE CLASS'S WORLD: all its numbers -/
/-- where a number lies: its digits' cell, their room, the digits, the length, the sign -/
abbrev WD : Type := Nat × Nat × (Int → Int) × Int × Int
def isWb (c : Nat) : Bool := decide ((19 ≤ c ∧ c ≤ 27 ∧ c % 2 = 1) ∨ (31 ≤ c ∧ c ≤ 101 ∧ c % 2 = 1) ∨ (104 ≤ c ∧ c ≤ 230 ∧ c % 2 = 0) ∨ c = 233 ∨ (238 ≤ c ∧ c ≤ 416 ∧ 2 ≤ (c - 236) % 26 ∧ c % 2 = 0) ∨ (419 ≤ c ∧ c ≤ 423 ∧ c % 2 = 1))
def isWh (c : Nat) : Prop := isWb c = true
theorem isWh_iff {c : Nat} : isWh c ↔ ((19 ≤ c ∧ c ≤ 27 ∧ c % 2 = 1) ∨ (31 ≤ c ∧ c ≤ 101 ∧ c % 2 = 1) ∨ (104 ≤ c ∧ c ≤ 230 ∧ c % 2 = 0) ∨ c = 233 ∨ (238 ≤ c ∧ c ≤ 416 ∧ 2 ≤ (c - 236) % 26 ∧ c % 2 = 0) ∨ (419 ≤ c ∧ c ≤ 423 ∧ c % 2 = 1)) := by
  unfold isWh isWb; rw [decide_eq_true_iff]
theorem isWh_lt {c : Nat} (h : isWh c) : c < 424 := by have := isWh_iff.mp h; omega
theorem isWh_next {c a : Nat} (h : isWh c) (h' : isWh a) : a ≠ c + 1 := by
  have h1 := isWh_iff.mp h
  have h2 := isWh_iff.mp h'
  omega
def sumW (g : Nat → Nat) : Nat := ((List.range 425).map (fun c => if isWb c then g c else 0)).sum
theorem sum_up {g h : Nat → Nat} {c : Nat} (hg : ∀ j, j ≠ c → h j = g j) : ∀ n, ((List.range n).map h).sum + (if c < n then g c else 0) = ((List.range n).map g).sum + (if c < n then h c else 0)
  | 0 => by simp
  | n + 1 => by
    have ih := sum_up hg n
    rw [List.range_succ, List.map_append, List.map_append, List.sum_append, List.sum_append]
    simp only [List.map_cons, List.map_nil, List.sum_cons, List.sum_nil, Nat.add_zero]
    by_cases e : c = n
    · subst e
      rw [if_neg (by omega), if_neg (by omega)] at ih
      rw [if_pos (by omega), if_pos (by omega)]
      omega
    · rw [hg n (fun e' => e e'.symm)]
      by_cases h2 : c < n
      · rw [if_pos h2, if_pos h2] at ih
        rw [if_pos (by omega), if_pos (by omega)]
        omega
      · rw [if_neg h2, if_neg h2] at ih
        rw [if_neg (by omega), if_neg (by omega)]
        omega
theorem sumW_up {g h : Nat → Nat} {c : Nat} (hc : isWh c) (hg : ∀ j, j ≠ c → h j = g j) : sumW h + g c = sumW g + h c := by
  have := sum_up (g := fun j => if isWb j then g j else 0) (h := fun j => if isWb j then h j else 0) (c := c) (fun j hj => by simp only [hg j hj]) 425
  have hlt := isWh_lt hc
  rw [if_pos (show c < 425 by omega), if_pos (show c < 425 by omega)] at this
  have hb : isWb c = true := hc
  simp only [hb, if_pos] at this
  exact this
def upT (t : Nat → WD) (c : Nat) (x : WD) : Nat → WD := fun j => if j = c then x else t j
theorem upT_same (t : Nat → WD) (c : Nat) (x : WD) : upT t c x c = x := by simp [upT]
theorem upT_ne (t : Nat → WD) {c j : Nat} (h : j ≠ c) (x : WD) : upT t c x j = t j := by simp [upT, h]
/-- the class's numbers are t; all else is as in w0; what it cost -/
def SW (w0 w : ax_W) (t : Nat → WD) (L Z : Nat) : Prop :=
  (438 ≤ w0.length ∧ w0.length ≤ w.length) ∧ (∀ j, j < w0.length → ¬ isWh j → (∀ c, isWh c → j ≠ c + 1) → w[j]? = w0[j]?) ∧
  (∀ c, isWh c → w[c]? = some (7, [.ref (t c).1, .int (jI (t c).2.2.2.1), .int (jI (t c).2.2.2.2)]) ∧ w[(t c).1]? = some (20, aI (t c).2.1 (t c).2.2.1) ∧ ((t c).1 = c + 1 ∨ w0.length ≤ (t c).1)) ∧
  (∀ c c', isWh c → isWh c' → (t c).1 = (t c').1 → c = c') ∧ w.length ≤ L + sumW (fun c => (t c).2.1) ∧ 33 * ax_sz w ≤ Z + sumW (fun c => (t c).2.1 * (t c).2.1)
theorem SW_TW {w0 w : ax_W} {t : Nat → WD} {L Z c : Nat} (h : SW w0 w t L Z) (hc : isWh c) : TW w w c (t c).1 (t c).2.1 (t c).2.2.1 (t c).2.2.2.1 (t c).2.2.2.2 := TW_refl (h.2.2.1 c hc).1 (h.2.2.1 c hc).2.1
theorem SW_dne {w0 w : ax_W} {t : Nat → WD} {L Z c a : Nat} (h : SW w0 w t L Z) (hc : isWh c) (ha : isWh a) : a ≠ (t c).1 := by
  have h1 := (h.2.2.1 c hc).2.2
  have h2 := isWh_next hc ha
  have h3 := isWh_lt ha
  have h4 := h.1
  omega
theorem SW_OW {w0 w : ax_W} {t : Nat → WD} {L Z c a : Nat} (h : SW w0 w t L Z) (hc : isWh c) (ha : isWh a) (hne : a ≠ c) : OW w c (t c).1 a (t a).1 (t a).2.1 (t a).2.2.1 (t a).2.2.2.1 (t a).2.2.2.2 :=
  ⟨⟨hne, SW_dne h hc ha, fun e => SW_dne h ha hc e.symm, fun e => hne (h.2.2.2.1 a c ha hc e)⟩, (h.2.2.1 a ha).1, (h.2.2.1 a ha).2.1⟩
theorem SW_back {w0 w w1 w' : ax_W} {t : Nat → WD} {L Z c d' cap' : Nat} {f' : Int → Int} {n' b' : Int} (h : SW w0 w t L Z) (hc : isWh c) (hT : TW w1 w' c d' cap' f' n' b') (hX : XT w w1 c (t c).1 d' (t c).2.1 cap') : SW w0 w' (upT t c (d', cap', f', n', b')) L Z := by
  obtain ⟨h1, h2, h3, h4, h5, h6⟩ := h
  have hS : SW w0 w t L Z := ⟨h1, h2, h3, h4, h5, h6⟩
  obtain ⟨x1, x2, x3, x4, x5, x6⟩ := hX
  obtain ⟨y1, y2, y3, y4, y5⟩ := hT
  have hdc := (h3 c hc).2.2
  have hcl := isWh_lt hc
  have keep : ∀ j, j < w.length → j ≠ c → j ≠ (t c).1 → w'[j]? = w[j]? := fun j hj hjc hjd => by
    rw [y3 j hjc (by omega)]; exact x2 j hj hjc hjd
  refine ⟨⟨h1.1, by omega⟩, fun j hj hw hd => ?_, fun a ha => ?_, fun a a' ha ha' => ?_, ?_, ?_⟩
  · have hjc : j ≠ c := fun e => hw (e ▸ hc)
    have := hd c hc
    rw [keep j (by omega) hjc (by omega)]; exact h2 j hj hw hd
  · by_cases e : a = c
    · subst e
      rw [upT_same]
      exact ⟨y4, y5, by simp only; omega⟩
    · rw [upT_ne _ e]
      obtain ⟨a1, a2, a3⟩ := h3 a ha
      have l1 := (List.getElem?_eq_some_iff.mp a1).1
      have l2 := (List.getElem?_eq_some_iff.mp a2).1
      refine ⟨by rw [keep a l1 e (SW_dne hS hc ha)]; exact a1, by rw [keep _ l2 (fun e' => SW_dne hS ha hc e'.symm) (fun e' => e (h4 a c ha hc e'))]; exact a2, a3⟩
  · intro hq
    by_cases e : a = c
    · by_cases e' : a' = c
      · omega
      · exfalso
        subst e
        rw [upT_same, upT_ne _ e'] at hq
        simp only at hq
        have l2 := (List.getElem?_eq_some_iff.mp (h3 a' ha').2.1).1
        have := h4 a' a ha' ha
        rcases x3 with q | q
        · exact e' (this (by omega))
        · omega
    · by_cases e' : a' = c
      · exfalso
        subst e'
        rw [upT_same, upT_ne _ e] at hq
        simp only at hq
        have l2 := (List.getElem?_eq_some_iff.mp (h3 a ha).2.1).1
        have := h4 a a' ha ha'
        rcases x3 with q | q
        · exact e (this (by omega))
        · omega
      · rw [upT_ne _ e, upT_ne _ e'] at hq
        exact h4 a a' ha ha' hq
  · have := sumW_up (g := fun c => (t c).2.1) (h := fun j => (upT t c (d', cap', f', n', b') j).2.1) hc (fun j hj => by simp only [upT_ne _ hj])
    simp only [upT_same] at this
    omega
  · have := sumW_up (g := fun c => (t c).2.1 * (t c).2.1) (h := fun j => (upT t c (d', cap', f', n', b') j).2.1 * (upT t c (d', cap', f', n', b') j).2.1) hc (fun j hj => by simp only [upT_ne _ hj])
    simp only [upT_same] at this
    omega
theorem SW_back0 {w0 w w' : ax_W} {t : Nat → WD} {L Z c : Nat} {f' : Int → Int} {n' b' : Int} (h : SW w0 w t L Z) (hc : isWh c) (hT : TW w w' c (t c).1 (t c).2.1 f' n' b') : SW w0 w' (upT t c ((t c).1, (t c).2.1, f', n', b')) L Z := SW_back h hc hT (XT_refl _ _ _ _)
/-- so much room a number may take -/
def capB (c : Nat) : Nat := if c ≤ 230 ∧ 31 ≤ c then 260 else 700
/-- the class's numbers have the values v -/
def SN (w0 w : ax_W) (v : Nat → Int) (L Z : Nat) : Prop := ∃ t, SW w0 w t L Z ∧ ∀ c, isWh c → Wv (t c).2.2.1 (t c).2.2.2.1 (t c).2.2.2.2 (v c) ∧ (t c).2.2.2.1 ≤ (t c).2.1 ∧ 32 ≤ (t c).2.1 ∧ (t c).2.1 ≤ capB c
def upv (v : Nat → Int) (c : Nat) (x : Int) : Nat → Int := fun j => if j = c then x else v j
theorem upv_same (v : Nat → Int) (c : Nat) (x : Int) : upv v c x c = x := by simp [upv]
theorem upv_ne (v : Nat → Int) {c j : Nat} (h : j ≠ c) (x : Int) : upv v c x j = v j := by simp [upv, h]
theorem capB_le (c : Nat) : capB c ≤ 1700 := by unfold capB; split <;> omega
theorem SN_got {w0 w w' : ax_W} {v : Nat → Int} {L Z c K : Nat} {t : Nat → WD} {x : Int} (h : SW w0 w t L Z) (hv : ∀ c, isWh c → Wv (t c).2.2.1 (t c).2.2.2.1 (t c).2.2.2.2 (v c) ∧ (t c).2.2.2.1 ≤ (t c).2.1 ∧ 32 ≤ (t c).2.1 ∧ (t c).2.1 ≤ capB c) (hc : isWh c) (hg : gotW w w' c (t c).1 (t c).2.1 x K) (hK : K ≤ capB c) : SN w0 w' (upv v c x) L Z := by
  obtain ⟨w1, d', cap', f', n', b', hT, hX, hV, hn, hcap⟩ := hg
  refine ⟨_, SW_back h hc hT hX, fun a ha => ?_⟩
  by_cases e : a = c
  · subst e
    rw [upT_same, upv_same]
    have := hv a ha
    have h4 := hX.2.2.2.1
    exact ⟨hV, hn, by simp only; omega, by simp only; omega⟩
  · rw [upT_ne _ e, upv_ne _ e]; exact hv a ha
section SWR
variable {xs : List Int32} {fr lo : Nat} {w0 w : ax_W} {v : Nat → Int} {L Z c a a' : Nat}
theorem n_add {sg : Int} {k1 k2 : Nat} (h : SN w0 w v L Z) (hc : isWh c) (ha : isWh a) (hne : a ≠ c) (hsg : sg = 1 ∨ sg = -1) (b1 : ((v c).natAbs : Int) < 1000000000 ^ k1) (b2 : ((v a).natAbs : Int) < 1000000000 ^ k2) (K1 : k1 + 34 ≤ capB c) (K2 : k2 + 34 ≤ capB c) (hfr : 3 ≤ fr) (hlo : 200 ≤ lo) :
    fin xs fr lo 71 0 (ax_ent [.ref c, .ref a, .int (jI sg)] 4) [] w (Ret fun u w' => u = none ∧ SN w0 w' (upv v c (v c + sg * v a)) L Z) := by
  obtain ⟨t, hS, hv⟩ := h
  obtain ⟨c1, c2, c3, c4⟩ := hv c hc
  obtain ⟨a1, a2, a3, a4⟩ := hv a ha
  have hT := SW_TW hS hc
  have hO := SW_OW hS hc ha hne
  have m1 := Wv_len c1 b1
  have m2 := Wv_len a1 b2
  have q1 := capB_le c
  have q2 := capB_le a
  obtain ⟨n1, hn1, _⟩ := id c1
  obtain ⟨n2, hn2, _⟩ := id a1
  rw [hn1] at c1 c2 m1 hT
  rw [hn2] at a1 a2 m2 hO
  refine fi_mono (h_add (K := capB c) hT c1 (by omega) (by omega) hO a1 (by omega) (by omega) hsg hfr hlo (by omega) (by omega)) ?_
  rintro o w' ⟨u, rfl, hu, hg⟩
  exact ⟨u, rfl, hu, SN_got hS hv hc hg (Nat.le_refl _)⟩
theorem n_addProduct {sg : Int} {k0 k1 k2 : Nat} (h : SN w0 w v L Z) (hc : isWh c) (ha : isWh a) (ha' : isWh a') (hne : a ≠ c) (hne' : a' ≠ c) (hsg : sg = 1 ∨ sg = -1) (b0 : ((v c).natAbs : Int) < 1000000000 ^ k0) (b1 : ((v a).natAbs : Int) < 1000000000 ^ k1) (b2 : ((v a').natAbs : Int) < 1000000000 ^ k2) (K0 : k0 + 33 ≤ capB c) (K1 : k1 + k2 + 33 ≤ capB c) (hfr : 3 ≤ fr) (hlo : 210 ≤ lo) :
    fin xs fr lo 35 0 (ax_ent [.ref c, .ref a, .ref a', .int (jI sg)] 9) [] w (Ret fun u w' => u = none ∧ SN w0 w' (upv v c (v c + sg * (v a * v a'))) L Z) := by
  obtain ⟨t, hS, hv⟩ := h
  obtain ⟨c1, c2, c3, c4⟩ := hv c hc
  obtain ⟨a1, a2, a3, a4⟩ := hv a ha
  obtain ⟨e1, e2, e3, e4⟩ := hv a' ha'
  have hT := SW_TW hS hc
  have hO := SW_OW hS hc ha hne
  have hO' := SW_OW hS hc ha' hne'
  have m0 := Wv_len c1 b0
  have m1 := Wv_len a1 b1
  have m2 := Wv_len e1 b2
  have q1 := capB_le c
  have q2 := capB_le a
  have q3 := capB_le a'
  obtain ⟨n0, hn0, _⟩ := id c1
  obtain ⟨n1, hn1, _⟩ := id a1
  obtain ⟨n2, hn2, _⟩ := id e1
  rw [hn0] at c1 c2 m0 hT
  rw [hn1] at a1 a2 m1 hO
  rw [hn2] at e1 e2 m2 hO'
  refine fi_mono (h_addProduct (K := capB c) hT c1 (by omega) (by omega) hO a1 (by omega) (by omega) hO' e1 (by omega) (by omega) hsg hfr hlo (by omega) (by omega)) ?_
  rintro o w' ⟨u, rfl, hu, hg⟩
  exact ⟨u, rfl, hu, SN_got hS hv hc hg (Nat.le_refl _)⟩
theorem n_becomeW {k : Nat} (h : SN w0 w v L Z) (hc : isWh c) (ha : isWh a) (hne : a ≠ c) (b1 : ((v a).natAbs : Int) < 1000000000 ^ k) (K1 : k + 32 ≤ capB c) (hfr : 1 ≤ fr) (hlo : 100 ≤ lo) :
    fin xs fr lo 64 0 (ax_ent [.ref c, .ref a] 2) [] w (Ret fun u w' => u = none ∧ SN w0 w' (upv v c (v a)) L Z) := by
  obtain ⟨t, hS, hv⟩ := h
  obtain ⟨c1, c2, c3, c4⟩ := hv c hc
  obtain ⟨a1, a2, a3, a4⟩ := hv a ha
  have hT := SW_TW hS hc
  have hO := SW_OW hS hc ha hne
  have m1 := Wv_len a1 b1
  have q1 := capB_le c
  have q2 := capB_le a
  obtain ⟨n1, hn1, _⟩ := id a1
  rw [hn1] at a1 a2 m1 hO
  refine fi_mono (h_becomeW hT (by omega) hO a1 (by omega) (by omega) hfr hlo) ?_
  rintro o w' ⟨u, rfl, hu, w1, d', cap', f', g1, g2, g3, g4, g5⟩
  exact ⟨u, rfl, hu, SN_got (K := capB c) hS hv hc ⟨w1, d', cap', f', n1, _, g1, g2, g3, by omega, by omega⟩ (Nat.le_refl _)⟩
theorem n_becomeJ {x : Int} (h : SN w0 w v L Z) (hc : isWh c) (x0 : -4611686018427387904 ≤ x) (x1 : x ≤ 4611686018427387904) (hfr : 3 ≤ fr) (hlo : 190 ≤ lo) :
    fin xs fr lo 5 0 (ax_ent [.ref c, .long (jL x)] 6) [] w (Ret fun u w' => u = none ∧ SN w0 w' (upv v c x) L Z) := by
  obtain ⟨t, hS, hv⟩ := h
  obtain ⟨c1, c2, c3, c4⟩ := hv c hc
  have q1 := capB_le c
  refine fi_mono (h_becomeJ (SW_TW hS hc) x0 x1 (by omega) (by omega) hfr hlo) ?_
  rintro o w' ⟨u, rfl, hu, f', n', b', g1, g2, g3⟩
  exact ⟨u, rfl, hu, SN_got (K := capB c) hS hv hc ⟨w, _, _, f', n', b', g1, XT_refl _ _ _ _, g2, g3, Or.inl rfl⟩ (Nat.le_refl _)⟩
theorem n_clear (h : SN w0 w v L Z) (hc : isWh c) : fin xs fr lo 6 0 (ax_ent [.ref c] 1) [] w (Ret fun u w' => u = none ∧ SN w0 w' (upv v c 0) L Z) := by
  obtain ⟨t, hS, hv⟩ := h
  refine fi_mono (h_clear (SW_TW hS hc)) ?_
  rintro o w' ⟨u, rfl, hu, g1⟩
  exact ⟨u, rfl, hu, SN_got (K := capB c) hS hv hc ⟨w, _, _, _, 0, 0, g1, XT_refl _ _ _ _, ⟨0, rfl, fun i hi => by omega, fun k hk => by omega, Or.inl ⟨rfl, rfl⟩⟩, by omega, Or.inl rfl⟩ (Nat.le_refl _)⟩
theorem n_negate (h : SN w0 w v L Z) (hc : isWh c) : fin xs fr lo 70 0 (ax_ent [.ref c] 1) [] w (Ret fun u w' => u = none ∧ SN w0 w' (upv v c (- v c)) L Z) := by
  obtain ⟨t, hS, hv⟩ := h
  obtain ⟨c1, c2, c3, c4⟩ := hv c hc
  have q1 := capB_le c
  refine fi_mono (h_negate (SW_TW hS hc) c1 (by omega)) ?_
  rintro o w' ⟨u, rfl, hu, b', g1, g2⟩
  exact ⟨u, rfl, hu, SN_got (K := capB c) hS hv hc ⟨w, _, _, _, _, b', g1, XT_refl _ _ _ _, g2, c2, Or.inl rfl⟩ (Nat.le_refl _)⟩
theorem n_isZero (h : SN w0 w v L Z) (hc : isWh c) : fin xs fr lo 54 0 (ax_ent [.ref c] 1) [] w (Same (.int (jI (if v c = 0 then 1 else 0))) w) := by
  obtain ⟨t, hS, hv⟩ := h
  obtain ⟨c1, c2, c3, c4⟩ := hv c hc
  have q1 := capB_le c
  have hz := Wv_zero c1
  have n0 : 0 ≤ (t c).2.2.2.1 := by obtain ⟨m, e, _⟩ := c1; omega
  have := h_isZero (xs := xs) (fr := fr) (lo := lo) (SW_TW hS hc) n0 (by omega)
  by_cases e : v c = 0
  · rw [if_pos (hz.mp e)] at this; rw [if_pos e]; exact this
  · rw [if_neg (fun q => e (hz.mpr q))] at this; rw [if_neg e]; exact this
theorem n_isOne (h : SN w0 w v L Z) (hc : isWh c) : fin xs fr lo 103 0 (ax_ent [.ref c] 1) [] w (Same (.int (jI (if v c = 1 then 1 else 0))) w) := by
  obtain ⟨t, hS, hv⟩ := h
  obtain ⟨c1, c2, c3, c4⟩ := hv c hc
  have q1 := capB_le c
  exact h_isOne (SW_TW hS hc) c1 (by omega) c2 (by omega)
theorem n_less (h : SN w0 w v L Z) (hc : isWh c) (ha : isWh a) (hne : a ≠ c) : fin xs fr lo 66 0 (ax_ent [.ref c, .ref a] 3) [] w (Same (.int (jI (if ((v c).natAbs : Int) < (v a).natAbs then 1 else 0))) w) := by
  obtain ⟨t, hS, hv⟩ := h
  obtain ⟨c1, c2, c3, c4⟩ := hv c hc
  obtain ⟨a1, a2, a3, a4⟩ := hv a ha
  have hT := SW_TW hS hc
  have hO := SW_OW hS hc ha hne
  have q1 := capB_le c
  have q2 := capB_le a
  obtain ⟨n1, hn1, _⟩ := id c1
  obtain ⟨n2, hn2, _⟩ := id a1
  rw [hn1] at c1 c2 hT
  rw [hn2] at a1 a2 hO
  exact h_less hT c1 (by omega) (by omega) hO a1 (by omega) (by omega)
end SWR
