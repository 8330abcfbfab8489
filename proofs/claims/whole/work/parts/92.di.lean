/-! THE CLASS: division, the guess of a digit -/
section KG
variable {xs : List Int32} {fr lo z pc p l u3 idx i c : Nat} {ls : List (Option Value)} {st fs : List Value} {w : ax_W} {Q : Outcome → ax_W → Prop} {M : ax_M}
theorem k_get {k : Nat} {v : Value} (hM : ax_prog[z]? = some M) (he : M.1[pc]? = some (some (.getfield idx, l, c, k, u3))) (hp : pc + l = p) (hw : w[i]? = some (c, fs)) (hv : fs[k]? = some v) (kk : fin xs fr lo z p ls (v :: st) w Q) : fin xs fr lo z pc ls (.ref i :: st) w Q := by
  subst hp; exact fi_get hM he hw hv kk
end KG
/-- a guess g of a digit: not below the digit, and not far above -/
def gss (d1 d2 st u2 : Int) (g : Int) : Prop := 0 ≤ g ∧ g ≤ 1000000000 ∧ (∀ q : Int, q * (d1 * 1000000000 + d2) ≤ st * 1000000000 + u2 → q ≤ 999999999 → q ≤ g) ∧ (g * (d1 * 1000000000 + d2) ≤ st * 1000000000 + u2 ∨ (g + 2) * d1 ≤ st)
section GUESS
variable {xs : List Int32} {fr lo : Nat} {w0 w : ax_W} {Q : Outcome → ax_W → Prop} {c d cap : Nat} {f : Int → Int} {n b : Int}
theorem guess_turn {T : Nat} {d1 d2 st u2 : Int} (hw : TW w w c d cap f n b) (hc : cap < 100000) (hT : 2 ≤ T) (hTc : T < cap) (hu2 : f (T - 2 : Nat) = u2) (u20 : 0 ≤ u2) (u21 : u2 < 1000000000) (d10 : 0 < d1) (d11 : d1 < 1000000000) (d20 : 0 ≤ d2) (d21 : d2 < 1000000000) (hst : st ≤ d1 * 1000000000 + 999999999) (st0 : 0 ≤ st)
    (K : ∀ (dg rs : Int) (y : Option Value), gss d1 d2 st u2 dg → fin xs fr lo 69 144 [some (.ref 18), some (.ref c), some (.int (jI T)), some (.long (jL d1)), none, some (.long (jL d2)), none, some (.long (jL st)), none, some (.long (jL dg)), none, some (.long (jL rs)), none, y] [] w Q) :
    ∀ (k : Nat) (dg rs : Int), k ≤ 2 → 0 ≤ rs → dg * d1 + rs = st → dg ≤ 1000000000 + k → 0 ≤ dg → (∀ q : Int, q * (d1 * 1000000000 + d2) ≤ st * 1000000000 + u2 → q ≤ 999999999 → q ≤ dg) → ((dg * (d1 * 1000000000 + d2) ≤ st * 1000000000 + u2 ∧ dg ≤ 1000000000) ∨ (dg + (2 - (k : Int))) * d1 ≤ st) →
    fin xs fr lo 69 77 [some (.ref 18), some (.ref c), some (.int (jI T)), some (.long (jL d1)), none, some (.long (jL d2)), none, some (.long (jL st)), none, some (.long (jL dg)), none, some (.long (jL rs)), none, some (.int (jI (2 - (k : Int))))] [] w Q := by
  have e2 : ((T - 2 : Nat) : Int) = (T : Int) - 2 := by omega
  rw [e2] at hu2
  have ex : ∀ x : Int, x * (d1 * 1000000000 + d2) = x * d1 * 1000000000 + x * d2 := fun x => by grind
  intro k
  induction k with
  | zero =>
    intro dg rs hk r0 hE hB g0 hA hP
    refine fi_step (pc' := 79) m_Di_guess rfl rfl ?_
    refine fi_step (pc' := 80) m_Di_guess rfl rfl ?_
    refine s_ic_ge (p := 83) m_Di_guess rfl rfl (by omega) (by omega) (by omega) (by omega) (fun hbr => ?_) (fun hbr => False.elim (by omega))
    refine K dg rs _ ⟨g0, by omega, hA, ?_⟩
    rcases hP with h | h
    · exact Or.inl h.1
    · exact Or.inr (by simpa using h)
  | succ k ih =>
    intro dg rs hk r0 hE hB g0 hA hP
    have hbig : 1000000000 ≤ dg → rs < 1000000000 := by
      intro h
      have : 1000000000 * d1 ≤ dg * d1 := Int.mul_le_mul_of_nonneg_right h (by omega)
      omega
    have d2b : dg ≤ 1000000000 → dg * d2 ≤ 1000000000 * d2 := fun h => Int.mul_le_mul_of_nonneg_right h d20
    have d2n : 0 ≤ dg * d2 := Int.mul_nonneg g0 d20
    have hst2 : st < 1000000000000000000 := by omega
    have hdd : 0 ≤ dg * d1 := Int.mul_nonneg g0 (by omega)
    have dec : (1000000000 ≤ dg ∨ st * 1000000000 + u2 < dg * (d1 * 1000000000 + d2)) → rs < 1000000000 → fin xs fr lo 69 126 [some (.ref 18), some (.ref c), some (.int (jI T)), some (.long (jL d1)), none, some (.long (jL d2)), none, some (.long (jL st)), none, some (.long (jL dg)), none, some (.long (jL rs)), none, some (.int (jI (2 - ((k + 1 : Nat) : Int))))] [] w Q := by
      intro hd hrs
      have pos : 1 ≤ dg := by
        rcases hd with h | h
        · omega
        · refine Classical.byContradiction (fun hn => ?_)
          obtain rfl : dg = 0 := by omega
          rw [Int.zero_mul] at h
          omega
      have e3 : (dg - 1) * d1 = dg * d1 - d1 := by grind
      refine fi_step (pc' := 128) m_Di_guess rfl rfl ?_
      refine s_lconst (p := 129) (v := 1) m_Di_guess rfl rfl rfl ?_
      refine s_lsub (p := 130) m_Di_guess rfl rfl ?_
      refine fi_step (pc' := 132) m_Di_guess rfl rfl ?_
      refine fi_step (pc' := 134) m_Di_guess rfl rfl ?_
      refine fi_step (pc' := 135) m_Di_guess rfl rfl ?_
      refine s_ladd (p := 136) m_Di_guess rfl rfl ?_
      refine fi_step (pc' := 138) m_Di_guess rfl rfl ?_
      refine s_iinc (p := 141) m_Di_guess rfl rfl rfl ?_
      refine fi_step (pc' := 77) m_Di_guess rfl rfl ?_
      rw [show (2 : Int) - ((k + 1 : Nat) : Int) + 1 = 2 - (k : Int) by omega]
      refine ih (dg - 1) (rs + d1) (by omega) (by omega) (by omega) (by omega) (by omega) (fun q hq hq9 => ?_) ?_
      · have h1 := hA q hq hq9
        rcases hd with h | h
        · omega
        · refine Classical.byContradiction (fun hn => ?_)
          obtain rfl : q = dg := by omega
          omega
      · rcases hP with h | h
        · rcases hd with h' | h'
          · refine Or.inl ⟨?_, by omega⟩
            have h1 : (dg - 1) * (d1 * 1000000000 + d2) = dg * (d1 * 1000000000 + d2) - (d1 * 1000000000 + d2) := by grind
            omega
          · omega
        · refine Or.inr ?_
          rw [show dg - 1 + (2 - (k : Int)) = dg + (2 - ((k + 1 : Nat) : Int)) by omega]; exact h
    have hmul : dg < 1000000000 → 0 ≤ dg * d2 ∧ dg * d2 < 1000000000000000000 := fun h => ⟨d2n, by
      have := d2b (by omega)
      omega⟩
    by_cases hrs : 1000000000 ≤ rs
    · have hdg : dg ≤ 1000000000 := Classical.byContradiction (fun h => by have := hbig (by omega); omega)
      have h1 := d2b hdg
      have hx := ex dg
      refine fi_step (pc' := 79) m_Di_guess rfl rfl ?_
      refine fi_step (pc' := 80) m_Di_guess rfl rfl ?_
      refine s_ic_ge (p := 83) m_Di_guess rfl rfl (by omega) (by omega) (by omega) (by omega) (fun hbr => False.elim (by omega)) (fun hbr => ?_)
      refine fi_step (pc' := 85) m_Di_guess rfl rfl ?_
      refine s_ldc2 (p := 88) 1000000000 m_Di_guess rfl rfl rfl ?_
      refine s_lc_ge (q := 89) (p := 92) m_Di_guess rfl rfl rfl rfl (by omega) (by omega) (by omega) (by omega) (fun hbr => ?_) (fun hbr => False.elim (by omega))
      exact K dg rs _ ⟨g0, hdg, hA, Or.inl (by omega)⟩
    · by_cases hdg : 1000000000 ≤ dg
      · refine fi_step (pc' := 79) m_Di_guess rfl rfl ?_
        refine fi_step (pc' := 80) m_Di_guess rfl rfl ?_
        refine s_ic_ge (p := 83) m_Di_guess rfl rfl (by omega) (by omega) (by omega) (by omega) (fun hbr => False.elim (by omega)) (fun hbr => ?_)
        refine fi_step (pc' := 85) m_Di_guess rfl rfl ?_
        refine s_ldc2 (p := 88) 1000000000 m_Di_guess rfl rfl rfl ?_
        refine s_lc_ge (q := 89) (p := 92) m_Di_guess rfl rfl rfl rfl (by omega) (by omega) (by omega) (by omega) (fun hbr => False.elim (by omega)) (fun hbr => ?_)
        refine fi_step (pc' := 94) m_Di_guess rfl rfl ?_
        refine s_ldc2 (p := 97) 1000000000 m_Di_guess rfl rfl rfl ?_
        refine s_lc_ge (q := 98) (p := 101) m_Di_guess rfl rfl rfl rfl (by omega) (by omega) (by omega) (by omega) (fun hbr => ?_) (fun hbr => False.elim (by omega))
        exact dec (Or.inl hdg) (by omega)
      · have hm := hmul (by omega)
        have hx := ex dg
        by_cases ht : dg * d2 ≤ rs * 1000000000 + u2
        · refine fi_step (pc' := 79) m_Di_guess rfl rfl ?_
          refine fi_step (pc' := 80) m_Di_guess rfl rfl ?_
          refine s_ic_ge (p := 83) m_Di_guess rfl rfl (by omega) (by omega) (by omega) (by omega) (fun hbr => False.elim (by omega)) (fun hbr => ?_)
          refine fi_step (pc' := 85) m_Di_guess rfl rfl ?_
          refine s_ldc2 (p := 88) 1000000000 m_Di_guess rfl rfl rfl ?_
          refine s_lc_ge (q := 89) (p := 92) m_Di_guess rfl rfl rfl rfl (by omega) (by omega) (by omega) (by omega) (fun hbr => False.elim (by omega)) (fun hbr => ?_)
          refine fi_step (pc' := 94) m_Di_guess rfl rfl ?_
          refine s_ldc2 (p := 97) 1000000000 m_Di_guess rfl rfl rfl ?_
          refine s_lc_ge (q := 98) (p := 101) m_Di_guess rfl rfl rfl rfl (by omega) (by omega) (by omega) (by omega) (fun hbr => False.elim (by omega)) (fun hbr => ?_)
          refine fi_step (pc' := 103) m_Di_guess rfl rfl ?_
          refine fi_step (pc' := 105) m_Di_guess rfl rfl ?_
          refine s_lmul (p := 106) m_Di_guess rfl rfl ?_
          refine fi_step (pc' := 108) m_Di_guess rfl rfl ?_
          refine s_ldc2 (p := 111) 1000000000 m_Di_guess rfl rfl rfl ?_
          refine s_lmul (p := 112) m_Di_guess rfl rfl ?_
          refine fi_step (pc' := 113) m_Di_guess rfl rfl ?_
          first | refine t_get (p := 116) m_Di_guess rfl rfl (by assumption) rfl ?_ | refine o_get (p := 116) m_Di_guess rfl rfl (by assumption) (by assumption) rfl ?_
          refine fi_step (pc' := 117) m_Di_guess rfl rfl ?_
          refine fi_step (pc' := 118) m_Di_guess rfl rfl ?_
          refine s_isub (p := 119) m_Di_guess rfl rfl ?_
          first | refine t_ld (p := 120) m_Di_guess rfl rfl (by assumption) (by omega) (by omega) (by omega) ?_ | refine o_ld (p := 120) m_Di_guess rfl rfl (by assumption) (by assumption) (by omega) (by omega) (by omega) ?_
          refine s_i2l (p := 121) m_Di_guess rfl rfl (by omega) (by omega) ?_
          refine s_ladd (p := 122) m_Di_guess rfl rfl ?_
          rw [hu2]
          refine s_lc_le (q := 123) (p := 126) m_Di_guess rfl rfl rfl rfl (by omega) (by omega) (by omega) (by omega) (fun hbr => ?_) (fun hbr => False.elim (by omega))
          refine s_iinc (p := 141) m_Di_guess rfl rfl rfl ?_
          refine fi_step (pc' := 77) m_Di_guess rfl rfl ?_
          rw [show (2 : Int) - ((k + 1 : Nat) : Int) + 1 = 2 - (k : Int) by omega]
          exact ih dg rs (by omega) r0 hE (by omega) g0 hA (Or.inl ⟨by omega, by omega⟩)
        · refine fi_step (pc' := 79) m_Di_guess rfl rfl ?_
          refine fi_step (pc' := 80) m_Di_guess rfl rfl ?_
          refine s_ic_ge (p := 83) m_Di_guess rfl rfl (by omega) (by omega) (by omega) (by omega) (fun hbr => False.elim (by omega)) (fun hbr => ?_)
          refine fi_step (pc' := 85) m_Di_guess rfl rfl ?_
          refine s_ldc2 (p := 88) 1000000000 m_Di_guess rfl rfl rfl ?_
          refine s_lc_ge (q := 89) (p := 92) m_Di_guess rfl rfl rfl rfl (by omega) (by omega) (by omega) (by omega) (fun hbr => False.elim (by omega)) (fun hbr => ?_)
          refine fi_step (pc' := 94) m_Di_guess rfl rfl ?_
          refine s_ldc2 (p := 97) 1000000000 m_Di_guess rfl rfl rfl ?_
          refine s_lc_ge (q := 98) (p := 101) m_Di_guess rfl rfl rfl rfl (by omega) (by omega) (by omega) (by omega) (fun hbr => False.elim (by omega)) (fun hbr => ?_)
          refine fi_step (pc' := 103) m_Di_guess rfl rfl ?_
          refine fi_step (pc' := 105) m_Di_guess rfl rfl ?_
          refine s_lmul (p := 106) m_Di_guess rfl rfl ?_
          refine fi_step (pc' := 108) m_Di_guess rfl rfl ?_
          refine s_ldc2 (p := 111) 1000000000 m_Di_guess rfl rfl rfl ?_
          refine s_lmul (p := 112) m_Di_guess rfl rfl ?_
          refine fi_step (pc' := 113) m_Di_guess rfl rfl ?_
          first | refine t_get (p := 116) m_Di_guess rfl rfl (by assumption) rfl ?_ | refine o_get (p := 116) m_Di_guess rfl rfl (by assumption) (by assumption) rfl ?_
          refine fi_step (pc' := 117) m_Di_guess rfl rfl ?_
          refine fi_step (pc' := 118) m_Di_guess rfl rfl ?_
          refine s_isub (p := 119) m_Di_guess rfl rfl ?_
          first | refine t_ld (p := 120) m_Di_guess rfl rfl (by assumption) (by omega) (by omega) (by omega) ?_ | refine o_ld (p := 120) m_Di_guess rfl rfl (by assumption) (by assumption) (by omega) (by omega) (by omega) ?_
          refine s_i2l (p := 121) m_Di_guess rfl rfl (by omega) (by omega) ?_
          refine s_ladd (p := 122) m_Di_guess rfl rfl ?_
          rw [hu2]
          refine s_lc_le (q := 123) (p := 126) m_Di_guess rfl rfl rfl rfl (by omega) (by omega) (by omega) (by omega) (fun hbr => False.elim (by omega)) (fun hbr => ?_)
          exact dec (Or.inr (by omega)) (by omega)
theorem guess_mid {T : Nat} {d1 d2 st : Int} (hw : TW w w c d cap f n b) (hc : cap < 100000) (hT : 2 ≤ T) (hTc : T < cap) (uT2 : 0 ≤ f (T - 2 : Nat) ∧ f (T - 2 : Nat) < 1000000000) (d13 : 1000000000 ≤ 3 * d1) (d11 : d1 < 1000000000) (d20 : 0 ≤ d2) (d21 : d2 < 1000000000) (st0 : 0 ≤ st) (stb : st ≤ d1 * 1000000000 + 999999999) :
    fin xs fr lo 69 62 [some (.ref 18), some (.ref c), some (.int (jI T)), some (.long (jL d1)), none, some (.long (jL d2)), none, some (.long (jL st)), none, none, none, none, none, none] [] w (Ret fun u w' => w' = w ∧ ∃ dg, u = some (.long (jL dg)) ∧ gss d1 d2 st (f (T - 2 : Nat)) dg) := by
  have hq := Int.emod_add_mul_ediv st d1
  have m0 := Int.emod_nonneg st (show d1 ≠ 0 by omega)
  have q0 : 0 ≤ st / d1 := Int.ediv_nonneg st0 (by omega)
  have hE : st / d1 * d1 + st % d1 = st := by rw [Int.mul_comm]; omega
  have qb : st / d1 ≤ 1000000002 := by
    refine Classical.byContradiction (fun h => ?_)
    have : 1000000003 * d1 ≤ st / d1 * d1 := Int.mul_le_mul_of_nonneg_right (by omega) (by omega)
    omega
  have := guess_turn (xs := xs) (fr := fr) (lo := lo) (T := T) (u2 := f (T - 2 : Nat)) (d1 := d1) (d2 := d2) (st := st) hw hc hT hTc rfl uT2.1 uT2.2 (by omega) d11 d20 d21 stb st0 (Q := Ret fun u w' => w' = w ∧ ∃ dg, u = some (.long (jL dg)) ∧ gss d1 d2 st (f (T - 2 : Nat)) dg) (by
    intro dg rs y hg
    refine fi_step (pc' := 146) m_Di_guess rfl rfl ?_
    refine p_retl m_Di_guess rfl rfl ?_
    exact ⟨rfl, dg, rfl, hg⟩) 2 (st / d1) (st % d1) (by omega) m0 hE (by omega) q0 (fun q hq hq9 => by
      refine Int.le_ediv_of_mul_le (by omega) ?_
      have hx : q * (d1 * 1000000000 + d2) = q * d1 * 1000000000 + q * d2 := by grind
      by_cases hq0 : 0 ≤ q
      · have := Int.mul_nonneg hq0 d20
        omega
      · have : q * d1 ≤ 0 := Int.mul_nonpos_of_nonpos_of_nonneg (by omega) (by omega)
        omega) (Or.inr (by simp; omega))
  rw [show (2 : Int) - ((2 : Nat) : Int) = 0 from rfl] at this
  refine fi_step (pc' := 64) m_Di_guess rfl rfl ?_
  refine fi_step (pc' := 65) m_Di_guess rfl rfl ?_
  refine s_ldiv (p := 66) m_Di_guess rfl rfl (by omega) (by omega) (by omega) (by omega) ?_
  refine fi_step (pc' := 68) m_Di_guess rfl rfl ?_
  refine fi_step (pc' := 70) m_Di_guess rfl rfl ?_
  refine fi_step (pc' := 71) m_Di_guess rfl rfl ?_
  refine s_lrem (p := 72) m_Di_guess rfl rfl (by omega) (by omega) (by omega) (by omega) ?_
  refine fi_step (pc' := 74) m_Di_guess rfl rfl ?_
  refine fi_step (pc' := 75) m_Di_guess rfl rfl ?_
  refine fi_step (pc' := 77) m_Di_guess rfl rfl ?_
  exact this
theorem guess_b {T : Nat} {d1 d2 : Int} (hw : TW w w c d cap f n b) (hc : cap < 100000) (hT : 2 ≤ T) (hTc : T < cap) (hu : ∀ i : Nat, i ≤ T → 0 ≤ f i ∧ f i < 1000000000) (d13 : 1000000000 ≤ 3 * d1) (d11 : d1 < 1000000000) (d20 : 0 ≤ d2) (d21 : d2 < 1000000000) (hst : f T ≤ d1) :
    fin xs fr lo 69 39 [some (.ref 18), some (.ref c), some (.int (jI T)), some (.long (jL d1)), none, some (.long (jL d2)), none, none, none, none, none, none, none, none] [] w (Ret fun u w' => w' = w ∧ ∃ dg, u = some (.long (jL dg)) ∧ gss d1 d2 (f T * 1000000000 + f (T - 1 : Nat)) (f (T - 2 : Nat)) dg) := by
  have a3 : ((T - 1 : Nat) : Int) = (T : Int) - 1 := by omega
  have uT := hu T (by omega)
  have uT1 := hu (T - 1) (by omega)
  have uT2 := hu (T - 2) (by omega)
  rw [a3] at uT1 ⊢
  refine fi_step (pc' := 40) m_Di_guess rfl rfl ?_
  first | refine t_get (p := 43) m_Di_guess rfl rfl (by assumption) rfl ?_ | refine o_get (p := 43) m_Di_guess rfl rfl (by assumption) (by assumption) rfl ?_
  refine fi_step (pc' := 44) m_Di_guess rfl rfl ?_
  first | refine t_ld (p := 45) m_Di_guess rfl rfl (by assumption) (by omega) (by omega) (by omega) ?_ | refine o_ld (p := 45) m_Di_guess rfl rfl (by assumption) (by assumption) (by omega) (by omega) (by omega) ?_
  refine s_i2l (p := 46) m_Di_guess rfl rfl (by omega) (by omega) ?_
  refine s_ldc2 (p := 49) 1000000000 m_Di_guess rfl rfl rfl ?_
  refine s_lmul (p := 50) m_Di_guess rfl rfl ?_
  refine fi_step (pc' := 51) m_Di_guess rfl rfl ?_
  first | refine t_get (p := 54) m_Di_guess rfl rfl (by assumption) rfl ?_ | refine o_get (p := 54) m_Di_guess rfl rfl (by assumption) (by assumption) rfl ?_
  refine fi_step (pc' := 55) m_Di_guess rfl rfl ?_
  refine fi_step (pc' := 56) m_Di_guess rfl rfl ?_
  refine s_isub (p := 57) m_Di_guess rfl rfl ?_
  first | refine t_ld (p := 58) m_Di_guess rfl rfl (by assumption) (by omega) (by omega) (by omega) ?_ | refine o_ld (p := 58) m_Di_guess rfl rfl (by assumption) (by assumption) (by omega) (by omega) (by omega) ?_
  refine s_i2l (p := 59) m_Di_guess rfl rfl (by omega) (by omega) ?_
  refine s_ladd (p := 60) m_Di_guess rfl rfl ?_
  refine fi_step (pc' := 62) m_Di_guess rfl rfl ?_
  exact guess_mid hw hc hT hTc uT2 d13 d11 d20 d21 (by omega) (by omega)
theorem h_guess {T e cp m : Nat} {g : Int → Int} {q d1 d2 : Int} (hD : w[18]? = some (1, [.ref 19, .ref 21, .ref 23, .ref 25, .ref 27])) (hw : TW w w c d cap f n b) (hc : cap < 100000) (hT : 2 ≤ T) (hTc : T < cap) (ho : OW w c d 19 e cp g m q) (hcp : cp < 100000) (hm : 2 ≤ m) (hmc : m ≤ cp) (hd1 : g (m - 1 : Nat) = d1) (hd2 : g (m - 2 : Nat) = d2) (hu : ∀ i : Nat, i ≤ T → 0 ≤ f i ∧ f i < 1000000000) (d13 : 1000000000 ≤ 3 * d1) (d11 : d1 < 1000000000) (d20 : 0 ≤ d2) (d21 : d2 < 1000000000) (hst : f T ≤ d1) :
    fin xs fr lo 69 0 (ax_ent [.ref 18, .ref c, .int (jI T)] 14) [] w (Ret fun u w' => w' = w ∧ ∃ dg, u = some (.long (jL dg)) ∧ gss d1 d2 (f T * 1000000000 + f (T - 1 : Nat)) (f (T - 2 : Nat)) dg) := by
  have a1 : ((m - 1 : Nat) : Int) = (m : Int) - 1 := by omega
  have a2 : ((m - 2 : Nat) : Int) = (m : Int) - 2 := by omega
  rw [a1] at hd1
  rw [a2] at hd2
  show fin xs fr lo 69 0 [some (.ref 18), some (.ref c), some (.int (jI T)), none, none, none, none, none, none, none, none, none, none, none] [] w _
  refine fi_step (pc' := 1) m_Di_guess rfl rfl ?_
  refine k_get (p := 4) m_Di_guess rfl rfl (by assumption) rfl ?_
  first | refine t_get (p := 7) m_Di_guess rfl rfl (by assumption) rfl ?_ | refine o_get (p := 7) m_Di_guess rfl rfl (by assumption) (by assumption) rfl ?_
  refine fi_step (pc' := 8) m_Di_guess rfl rfl ?_
  refine k_get (p := 11) m_Di_guess rfl rfl (by assumption) rfl ?_
  first | refine t_get (p := 14) m_Di_guess rfl rfl (by assumption) rfl ?_ | refine o_get (p := 14) m_Di_guess rfl rfl (by assumption) (by assumption) rfl ?_
  refine fi_step (pc' := 15) m_Di_guess rfl rfl ?_
  refine s_isub (p := 16) m_Di_guess rfl rfl ?_
  first | refine t_ld (p := 17) m_Di_guess rfl rfl (by assumption) (by omega) (by omega) (by omega) ?_ | refine o_ld (p := 17) m_Di_guess rfl rfl (by assumption) (by assumption) (by omega) (by omega) (by omega) ?_
  rw [hd1]
  refine s_i2l (p := 18) m_Di_guess rfl rfl (by omega) (by omega) ?_
  refine fi_step (pc' := 19) m_Di_guess rfl rfl ?_
  show fin xs fr lo 69 19 [some (.ref 18), some (.ref c), some (.int (jI T)), some (.long (jL d1)), none, none, none, none, none, none, none, none, none, none] [] w _
  refine fi_step (pc' := 20) m_Di_guess rfl rfl ?_
  refine k_get (p := 23) m_Di_guess rfl rfl (by assumption) rfl ?_
  first | refine t_get (p := 26) m_Di_guess rfl rfl (by assumption) rfl ?_ | refine o_get (p := 26) m_Di_guess rfl rfl (by assumption) (by assumption) rfl ?_
  refine fi_step (pc' := 27) m_Di_guess rfl rfl ?_
  refine k_get (p := 30) m_Di_guess rfl rfl (by assumption) rfl ?_
  first | refine t_get (p := 33) m_Di_guess rfl rfl (by assumption) rfl ?_ | refine o_get (p := 33) m_Di_guess rfl rfl (by assumption) (by assumption) rfl ?_
  refine fi_step (pc' := 34) m_Di_guess rfl rfl ?_
  refine s_isub (p := 35) m_Di_guess rfl rfl ?_
  first | refine t_ld (p := 36) m_Di_guess rfl rfl (by assumption) (by omega) (by omega) (by omega) ?_ | refine o_ld (p := 36) m_Di_guess rfl rfl (by assumption) (by assumption) (by omega) (by omega) (by omega) ?_
  rw [hd2]
  refine s_i2l (p := 37) m_Di_guess rfl rfl (by omega) (by omega) ?_
  refine fi_step (pc' := 39) m_Di_guess rfl rfl ?_
  exact guess_b hw hc hT hTc hu d13 d11 d20 d21 hst
end GUESS
