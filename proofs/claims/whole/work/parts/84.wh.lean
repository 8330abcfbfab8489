/-! THE CLASS'S NUMBERS: trim, widen, become -/
/-- f's first n digits, to the base 10^9 -/
def dw (f : Int → Int) (n : Nat) : Int := dvB 1000000000 f 0 n
/-- all are digits -/
def dgs (f : Int → Int) (n : Nat) : Prop := ∀ i : Nat, i < n → 0 ≤ f i ∧ f i < 1000000000
theorem dgs_digB {f : Int → Int} {n : Nat} : dgs f n ↔ digB 1000000000 f 0 n := by
  unfold dgs digB
  constructor
  · intro h i hi; rw [Int.zero_add]; exact h i hi
  · intro h i hi; have := h i hi; rwa [Int.zero_add] at this
theorem dw_succ (f : Int → Int) (n : Nat) : dw f (n + 1) = dw f n + f n * 1000000000 ^ n := by unfold dw; rw [dvB_succ, Int.zero_add]
theorem dw_congr {f g : Int → Int} {n : Nat} (h : ∀ i : Nat, i < n → f i = g i) : dw f n = dw g n := dvB_congr (fun i hi => by rw [Int.zero_add]; exact h i hi)
theorem dw_nn {f : Int → Int} {n : Nat} (h : dgs f n) : 0 ≤ dw f n := dvB_nonneg (by decide) (fun i hi => by rw [Int.zero_add]; exact (h i hi).1)
theorem dw_lt {f : Int → Int} {n : Nat} (h : dgs f n) : dw f n < 1000000000 ^ n := dvB_lt (by decide) (dgs_digB.mp h)
theorem dw_ge {f : Int → Int} {n : Nat} (h : dgs f (n + 1)) (ht : f n ≠ 0) : 1000000000 ^ n ≤ dw f (n + 1) := dvB_ge (by decide) (dgs_digB.mp h) (by rw [Int.zero_add]; exact ht)
theorem dw_zeros {f : Int → Int} {n : Nat} : ∀ {m : Nat}, n ≤ m → (∀ i : Nat, n ≤ i → i < m → f i = 0) → dw f m = dw f n
  | 0, h, _ => by rw [show n = 0 by omega]
  | m + 1, h, hz => by
    by_cases e : n = m + 1
    · rw [e]
    · rw [dw_succ, hz m (by omega) (by omega), Int.zero_mul, Int.add_zero]
      exact dw_zeros (by omega) (fun i h0 h1 => hz i h0 (by omega))
/-- the number v: n digits, no 0 ahead, a sign (0 has none) -/
def Wv (f : Int → Int) (n b v : Int) : Prop := ∃ m : Nat, n = m ∧ dgs f m ∧ (∀ k : Nat, m = k + 1 → f k ≠ 0) ∧ ((b = 0 ∧ v = dw f m) ∨ (b = 1 ∧ 0 < m ∧ v = - dw f m))
theorem Wv_b {f : Int → Int} {n b v : Int} (h : Wv f n b v) : b = 0 ∨ b = 1 := by obtain ⟨m, _, _, _, h | h⟩ := h <;> omega
theorem Wv_zero {f : Int → Int} {n b v : Int} (h : Wv f n b v) : v = 0 ↔ n = 0 := by
  obtain ⟨m, rfl, hd, ht, hs⟩ := h
  cases m with
  | zero =>
    have : dw f 0 = 0 := rfl
    rcases hs with ⟨_, e⟩ | ⟨_, h0, _⟩
    · rw [e, this]; simp
    · omega
  | succ k =>
    have := dw_ge hd (ht k rfl)
    have hp : (0 : Int) < 1000000000 ^ k := Int.pow_pos (by decide)
    constructor
    · intro e; rcases hs with ⟨_, e'⟩ | ⟨_, _, e'⟩ <;> omega
    · intro e; omega
theorem Wv_neg {f : Int → Int} {n b v : Int} (h : Wv f n b v) : b = 1 ↔ v < 0 := by
  have hz := Wv_zero h
  obtain ⟨m, rfl, hd, ht, hs⟩ := h
  have := dw_nn hd
  rcases hs with ⟨e1, e⟩ | ⟨e1, h0, e⟩
  · omega
  · have : v ≠ 0 := fun e' => by have := hz.mp e'; omega
    omega
theorem Wv_abs {f : Int → Int} {n b v : Int} (h : Wv f n b v) : ∃ m : Nat, n = m ∧ dgs f m ∧ (v.natAbs : Int) = dw f m := by
  obtain ⟨m, rfl, hd, ht, hs⟩ := h
  have := dw_nn hd
  refine ⟨m, rfl, hd, ?_⟩
  rcases hs with ⟨_, e⟩ | ⟨_, _, e⟩ <;> omega
/-- so many digits are enough -/
theorem Wv_len {f : Int → Int} {n b v : Int} {k : Nat} (h : Wv f n b v) (hv : (v.natAbs : Int) < 1000000000 ^ k) : n ≤ k := by
  obtain ⟨m, rfl, hd, ht, hs⟩ := h
  cases m with
  | zero => omega
  | succ j =>
    have h1 := dw_ge hd (ht j rfl)
    have h2 := dw_nn hd
    have : ((1000000000 : Int)) ^ j < 1000000000 ^ k := by rcases hs with ⟨_, e⟩ | ⟨_, _, e⟩ <;> omega
    have := pow_inj_lt (B := 1000000000) (by decide) this
    omega
/-- what a Whole's growth leaves alone, and what it costs -/
def XT (w0 w0' : ax_W) (c d d' cap cap' : Nat) : Prop := w0.length ≤ w0'.length ∧ (∀ j, j < w0.length → j ≠ c → j ≠ d → w0'[j]? = w0[j]?) ∧ (d' = d ∨ w0.length ≤ d') ∧ cap ≤ cap' ∧ w0'.length + cap ≤ w0.length + cap' ∧ 33 * ax_sz w0' + cap * cap ≤ 33 * ax_sz w0 + cap' * cap'
theorem XT_refl (w0 : ax_W) (c d cap : Nat) : XT w0 w0 c d d cap cap := ⟨Nat.le_refl _, fun _ _ _ _ => rfl, Or.inl rfl, Nat.le_refl _, Nat.le_refl _, Nat.le_refl _⟩
theorem XT_trans {w0 w1 w2 : ax_W} {c d d1 d2 cap cap1 cap2 : Nat} (h : XT w0 w1 c d d1 cap cap1) (h' : XT w1 w2 c d1 d2 cap1 cap2) : XT w0 w2 c d d2 cap cap2 := by
  obtain ⟨a1, a2, a3, a4, a5, a6⟩ := h
  obtain ⟨b1, b2, b3, b4, b5, b6⟩ := h'
  refine ⟨by omega, fun j hj hc hd => ?_, by omega, by omega, by omega, by omega⟩
  rw [b2 j (by omega) hc (by omega)]; exact a2 j hj hc hd
theorem XT_OW {w0 w0' : ax_W} {c d d' cap cap' a e cp : Nat} {g : Int → Int} {m q : Int} (h : XT w0 w0' c d d' cap cap') (ho : OW w0 c d a e cp g m q) : OW w0' c d' a e cp g m q := by
  obtain ⟨⟨o1, o2, o3, o4⟩, o5, o6⟩ := ho
  have la := (List.getElem?_eq_some_iff.mp o5).1
  have le := (List.getElem?_eq_some_iff.mp o6).1
  obtain ⟨a1, a2, a3, _⟩ := h
  refine ⟨⟨o1, by omega, o3, by omega⟩, ?_, ?_⟩
  · rw [a2 a la o1 o2]; exact o5
  · rw [a2 e le o3 o4]; exact o6
theorem sz_app (w : ax_W) (t : Nat) (vs : List Value) (ht : 20 ≤ t) : ax_sz (w ++ [(t, vs)]) = ax_sz w + vs.length := by
  unfold ax_sz
  rw [List.map_append, List.sum_append]
  have : ax_cs (t, vs) = vs.length := by unfold ax_cs; rw [if_neg (by simp only; omega), if_neg (by simp only; omega)]
  simp [this]
section WH2
variable {xs : List Int32} {fr lo : Nat} {w0 w : ax_W} {Q : Outcome → ax_W → Prop} {c d cap : Nat} {f : Int → Int} {n b : Int}
theorem trim_loop (hc : cap < 100000) (hb : b = 0 ∨ b = 1) {y : Value} : ∀ (t : Nat) (w : ax_W), TW w0 w c d cap f t b → t ≤ cap → dgs f t →
    fin xs fr lo 13 5 [some (.ref c), some y] [] w (Ret fun u w' => u = none ∧ ∃ n' b', TW w0 w' c d cap f n' b' ∧ n' ≤ t ∧ (∀ i : Nat, n' ≤ i → i < t → f i = 0) ∧ Wv f n' b' (if b = 1 then - dw f t else dw f t)) := by
  have tail : ∀ (t : Nat) (w : ax_W), TW w0 w c d cap f t b → t ≤ cap → dgs f t → (∀ k : Nat, t = k + 1 → f k ≠ 0) → fin xs fr lo 13 39 [some (.ref c), some y] [] w (Ret fun u w' => u = none ∧ ∃ n' b', TW w0 w' c d cap f n' b' ∧ n' ≤ t ∧ (∀ i : Nat, n' ≤ i → i < t → f i = 0) ∧ Wv f n' b' (if b = 1 then - dw f t else dw f t)) := by
    intro t w hw ht hd hl
    rcases hb with rfl | rfl
    · refine fi_step (pc' := 40) m_Wh_trim rfl rfl ?_
      refine fi_step (pc' := 41) m_Wh_trim rfl rfl ?_
      first | refine t_get (p := 44) m_Wh_trim rfl rfl (by assumption) rfl ?_ | refine o_get (p := 44) m_Wh_trim rfl rfl (by assumption) (by assumption) rfl ?_
      refine s_if_eq (p := 47) m_Wh_trim rfl rfl (by omega) (by omega) (fun hbr => ?_) (fun hbr => False.elim (by omega))
      refine fi_step (pc' := 59) m_Wh_trim rfl rfl ?_
      refine t_put2 (p := 62) m_Wh_trim rfl rfl (by assumption) (by first | exact Or.inl rfl | exact Or.inr rfl | assumption | omega) (fun w hw => ?_)
      refine p_ret m_Wh_trim rfl rfl ?_
      exact ⟨rfl, t, 0, hw, by omega, fun i _ _ => by omega, t, rfl, hd, hl, Or.inl ⟨rfl, by rw [if_neg (by decide)]⟩⟩
    · by_cases h0 : t = 0
      · subst h0
        refine fi_step (pc' := 40) m_Wh_trim rfl rfl ?_
        refine fi_step (pc' := 41) m_Wh_trim rfl rfl ?_
        first | refine t_get (p := 44) m_Wh_trim rfl rfl (by assumption) rfl ?_ | refine o_get (p := 44) m_Wh_trim rfl rfl (by assumption) (by assumption) rfl ?_
        refine s_if_eq (p := 47) m_Wh_trim rfl rfl (by omega) (by omega) (fun hbr => False.elim (by omega)) (fun hbr => ?_)
        refine fi_step (pc' := 48) m_Wh_trim rfl rfl ?_
        first | refine t_get (p := 51) m_Wh_trim rfl rfl (by assumption) rfl ?_ | refine o_get (p := 51) m_Wh_trim rfl rfl (by assumption) (by assumption) rfl ?_
        refine s_if_le (p := 54) m_Wh_trim rfl rfl (by omega) (by omega) (fun hbr => ?_) (fun hbr => False.elim (by omega))
        refine fi_step (pc' := 59) m_Wh_trim rfl rfl ?_
        refine t_put2 (p := 62) m_Wh_trim rfl rfl (by assumption) (by first | exact Or.inl rfl | exact Or.inr rfl | assumption | omega) (fun w hw => ?_)
        refine p_ret m_Wh_trim rfl rfl ?_
        exact ⟨rfl, 0, 0, hw, by omega, fun i _ _ => by omega, 0, rfl, hd, hl, Or.inl ⟨rfl, by rw [if_pos rfl]; rfl⟩⟩
      · refine fi_step (pc' := 40) m_Wh_trim rfl rfl ?_
        refine fi_step (pc' := 41) m_Wh_trim rfl rfl ?_
        first | refine t_get (p := 44) m_Wh_trim rfl rfl (by assumption) rfl ?_ | refine o_get (p := 44) m_Wh_trim rfl rfl (by assumption) (by assumption) rfl ?_
        refine s_if_eq (p := 47) m_Wh_trim rfl rfl (by omega) (by omega) (fun hbr => False.elim (by omega)) (fun hbr => ?_)
        refine fi_step (pc' := 48) m_Wh_trim rfl rfl ?_
        first | refine t_get (p := 51) m_Wh_trim rfl rfl (by assumption) rfl ?_ | refine o_get (p := 51) m_Wh_trim rfl rfl (by assumption) (by assumption) rfl ?_
        refine s_if_le (p := 54) m_Wh_trim rfl rfl (by omega) (by omega) (fun hbr => False.elim (by omega)) (fun hbr => ?_)
        refine fi_step (pc' := 55) m_Wh_trim rfl rfl ?_
        refine fi_step (pc' := 59) m_Wh_trim rfl rfl ?_
        refine t_put2 (p := 62) m_Wh_trim rfl rfl (by assumption) (by first | exact Or.inl rfl | exact Or.inr rfl | assumption | omega) (fun w hw => ?_)
        refine p_ret m_Wh_trim rfl rfl ?_
        exact ⟨rfl, t, 1, hw, by omega, fun i _ _ => by omega, t, rfl, hd, hl, Or.inr ⟨rfl, by omega, by rw [if_pos rfl]⟩⟩
  intro t
  induction t with
  | zero =>
    intro w hw ht hd
    refine fi_step (pc' := 6) m_Wh_trim rfl rfl ?_
    first | refine t_get (p := 9) m_Wh_trim rfl rfl (by assumption) rfl ?_ | refine o_get (p := 9) m_Wh_trim rfl rfl (by assumption) (by assumption) rfl ?_
    refine s_if_le (p := 12) m_Wh_trim rfl rfl (by omega) (by omega) (fun hbr => ?_) (fun hbr => False.elim (by omega))
    exact tail 0 w hw ht hd (fun k hk => by omega)
  | succ t ih =>
    intro w hw ht hd
    have hdt := hd t (by omega)
    have e1 : ((t + 1 : Nat) : Int) - 1 = (t : Int) := by omega
    refine fi_step (pc' := 6) m_Wh_trim rfl rfl ?_
    first | refine t_get (p := 9) m_Wh_trim rfl rfl (by assumption) rfl ?_ | refine o_get (p := 9) m_Wh_trim rfl rfl (by assumption) (by assumption) rfl ?_
    refine s_if_le (p := 12) m_Wh_trim rfl rfl (by omega) (by omega) (fun hbr => False.elim (by omega)) (fun hbr => ?_)
    refine fi_step (pc' := 13) m_Wh_trim rfl rfl ?_
    first | refine t_get (p := 16) m_Wh_trim rfl rfl (by assumption) rfl ?_ | refine o_get (p := 16) m_Wh_trim rfl rfl (by assumption) (by assumption) rfl ?_
    refine fi_step (pc' := 17) m_Wh_trim rfl rfl ?_
    first | refine t_get (p := 20) m_Wh_trim rfl rfl (by assumption) rfl ?_ | refine o_get (p := 20) m_Wh_trim rfl rfl (by assumption) (by assumption) rfl ?_
    refine fi_step (pc' := 21) m_Wh_trim rfl rfl ?_
    refine s_isub (p := 22) m_Wh_trim rfl rfl ?_
    first | refine t_ld (p := 23) m_Wh_trim rfl rfl (by assumption) (by omega) (by omega) (by omega) ?_ | refine o_ld (p := 23) m_Wh_trim rfl rfl (by assumption) (by assumption) (by omega) (by omega) (by omega) ?_
    rw [e1]
    refine s_if_ne (p := 26) m_Wh_trim rfl rfl (by omega) (by omega) (fun hz => ?_) (fun hz => ?_)
    · exact tail (t + 1) w hw ht hd (fun k hk => by obtain rfl : k = t := by omega
                                                    exact hz)
    · have hz : f t = 0 := by omega
      refine fi_step (pc' := 27) m_Wh_trim rfl rfl ?_
      refine fi_step (pc' := 28) m_Wh_trim rfl rfl ?_
      first | refine t_get (p := 31) m_Wh_trim rfl rfl (by assumption) rfl ?_ | refine o_get (p := 31) m_Wh_trim rfl rfl (by assumption) (by assumption) rfl ?_
      refine fi_step (pc' := 32) m_Wh_trim rfl rfl ?_
      refine s_isub (p := 33) m_Wh_trim rfl rfl ?_
      refine t_put1 (p := 36) m_Wh_trim rfl rfl (by assumption) (fun w hw => ?_)
      refine fi_step (pc' := 5) m_Wh_trim rfl rfl ?_
      rw [e1] at hw
      refine fi_mono (ih w hw (by omega) (fun i hi => hd i (by omega))) ?_
      rintro o w' ⟨v, rfl, hv, n', b', g1, g2, g4, g3⟩
      refine ⟨v, rfl, hv, n', b', g1, by omega, fun i h0 h1 => ?_, ?_⟩
      · by_cases e : i = t
        · subst e; exact hz
        · exact g4 i h0 (by omega)
      · rw [dw_succ, hz, Int.zero_mul, Int.add_zero]; exact g3
theorem h_trim {t : Nat} (hc : cap < 100000) (hb : b = 0 ∨ b = 1) (hw : TW w0 w c d cap f n b) (ht : t ≤ cap) (hd : dgs f t) :
    fin xs fr lo 13 0 (ax_ent [.ref c, .int (jI t)] 2) [] w (Ret fun u w' => u = none ∧ ∃ n' b', TW w0 w' c d cap f n' b' ∧ n' ≤ t ∧ (∀ i : Nat, n' ≤ i → i < t → f i = 0) ∧ Wv f n' b' (if b = 1 then - dw f t else dw f t)) := by
  refine fi_step (pc' := 1) m_Wh_trim rfl rfl ?_
  refine fi_step (pc' := 2) m_Wh_trim rfl rfl ?_
  refine t_put1 (p := 5) m_Wh_trim rfl rfl (by assumption) (fun w hw => ?_)
  exact trim_loop hc hb t w hw ht hd
theorem h_negate {v : Int} (hw : TW w0 w c d cap f n b) (hv : Wv f n b v) (hn : n < 100000) :
    fin xs fr lo 70 0 (ax_ent [.ref c] 1) [] w (Ret fun u w' => u = none ∧ ∃ b', TW w0 w' c d cap f n b' ∧ Wv f n b' (-v)) := by
  obtain ⟨m, rfl, hd, hl, hs⟩ := hv
  by_cases h0 : m = 0
  · subst h0
    have e0 : dw f 0 = 0 := rfl
    refine fi_step (pc' := 1) m_Wh_negate rfl rfl ?_
    refine fi_step (pc' := 2) m_Wh_negate rfl rfl ?_
    first | refine t_get (p := 5) m_Wh_negate rfl rfl (by assumption) rfl ?_ | refine o_get (p := 5) m_Wh_negate rfl rfl (by assumption) (by assumption) rfl ?_
    refine s_if_le (p := 8) m_Wh_negate rfl rfl (by omega) (by omega) (fun hbr => ?_) (fun hbr => False.elim (by omega))
    refine fi_step (pc' := 20) m_Wh_negate rfl rfl ?_
    refine t_put2 (p := 23) m_Wh_negate rfl rfl (by assumption) (by first | exact Or.inl rfl | exact Or.inr rfl | assumption | omega) (fun w hw => ?_)
    refine p_ret m_Wh_negate rfl rfl ?_
    refine ⟨rfl, 0, hw, 0, rfl, hd, hl, Or.inl ⟨rfl, ?_⟩⟩
    rcases hs with ⟨_, e⟩ | ⟨_, h, _⟩ <;> omega
  · rcases hs with ⟨rfl, e⟩ | ⟨rfl, _, e⟩
    · refine fi_step (pc' := 1) m_Wh_negate rfl rfl ?_
      refine fi_step (pc' := 2) m_Wh_negate rfl rfl ?_
      first | refine t_get (p := 5) m_Wh_negate rfl rfl (by assumption) rfl ?_ | refine o_get (p := 5) m_Wh_negate rfl rfl (by assumption) (by assumption) rfl ?_
      refine s_if_le (p := 8) m_Wh_negate rfl rfl (by omega) (by omega) (fun hbr => False.elim (by omega)) (fun hbr => ?_)
      refine fi_step (pc' := 9) m_Wh_negate rfl rfl ?_
      first | refine t_get (p := 12) m_Wh_negate rfl rfl (by assumption) rfl ?_ | refine o_get (p := 12) m_Wh_negate rfl rfl (by assumption) (by assumption) rfl ?_
      refine s_if_ne (p := 15) m_Wh_negate rfl rfl (by omega) (by omega) (fun hbr => False.elim (by omega)) (fun hbr => ?_)
      refine fi_step (pc' := 16) m_Wh_negate rfl rfl ?_
      refine fi_step (pc' := 20) m_Wh_negate rfl rfl ?_
      refine t_put2 (p := 23) m_Wh_negate rfl rfl (by assumption) (by first | exact Or.inl rfl | exact Or.inr rfl | assumption | omega) (fun w hw => ?_)
      refine p_ret m_Wh_negate rfl rfl ?_
      exact ⟨rfl, 1, hw, m, rfl, hd, hl, Or.inr ⟨rfl, by omega, by omega⟩⟩
    · refine fi_step (pc' := 1) m_Wh_negate rfl rfl ?_
      refine fi_step (pc' := 2) m_Wh_negate rfl rfl ?_
      first | refine t_get (p := 5) m_Wh_negate rfl rfl (by assumption) rfl ?_ | refine o_get (p := 5) m_Wh_negate rfl rfl (by assumption) (by assumption) rfl ?_
      refine s_if_le (p := 8) m_Wh_negate rfl rfl (by omega) (by omega) (fun hbr => False.elim (by omega)) (fun hbr => ?_)
      refine fi_step (pc' := 9) m_Wh_negate rfl rfl ?_
      first | refine t_get (p := 12) m_Wh_negate rfl rfl (by assumption) rfl ?_ | refine o_get (p := 12) m_Wh_negate rfl rfl (by assumption) (by assumption) rfl ?_
      refine s_if_ne (p := 15) m_Wh_negate rfl rfl (by omega) (by omega) (fun hbr => ?_) (fun hbr => False.elim (by omega))
      refine fi_step (pc' := 20) m_Wh_negate rfl rfl ?_
      refine t_put2 (p := 23) m_Wh_negate rfl rfl (by assumption) (by first | exact Or.inl rfl | exact Or.inr rfl | assumption | omega) (fun w hw => ?_)
      refine p_ret m_Wh_negate rfl rfl ?_
      exact ⟨rfl, 0, hw, m, rfl, hd, hl, Or.inl ⟨rfl, by omega⟩⟩
theorem h_isOne {v : Int} (hw : TW w0 w c d cap f n b) (hv : Wv f n b v) (hc : cap < 100000) (hn : n ≤ cap) (h1 : 1 ≤ cap) :
    fin xs fr lo 103 0 (ax_ent [.ref c] 1) [] w (Same (.int (jI (if v = 1 then 1 else 0))) w) := by
  obtain ⟨m, rfl, hd, hl, hs⟩ := hv
  by_cases hm : m = 1
  · subst hm
    have d0 := hd 0 (by omega)
    simp only [Int.ofNat_zero] at d0
    have e1 : dw f 1 = f 0 := by rw [dw_succ]; simp [dw, dvB]
    by_cases hf : f 0 = 1
    · rcases hs with ⟨rfl, e⟩ | ⟨rfl, _, e⟩
      · rw [if_pos (by omega)]
        refine fi_step (pc' := 1) m_Wh_isOne rfl rfl ?_
        first | refine t_get (p := 4) m_Wh_isOne rfl rfl (by assumption) rfl ?_ | refine o_get (p := 4) m_Wh_isOne rfl rfl (by assumption) (by assumption) rfl ?_
        refine fi_step (pc' := 5) m_Wh_isOne rfl rfl ?_
        refine s_ic_ne (p := 8) m_Wh_isOne rfl rfl (by omega) (by omega) (by omega) (by omega) (fun hbr => False.elim (by omega)) (fun hbr => ?_)
        refine fi_step (pc' := 9) m_Wh_isOne rfl rfl ?_
        first | refine t_get (p := 12) m_Wh_isOne rfl rfl (by assumption) rfl ?_ | refine o_get (p := 12) m_Wh_isOne rfl rfl (by assumption) (by assumption) rfl ?_
        refine fi_step (pc' := 13) m_Wh_isOne rfl rfl ?_
        first | refine t_ld (p := 14) m_Wh_isOne rfl rfl (by assumption) (by omega) (by omega) (by omega) ?_ | refine o_ld (p := 14) m_Wh_isOne rfl rfl (by assumption) (by assumption) (by omega) (by omega) (by omega) ?_
        refine fi_step (pc' := 15) m_Wh_isOne rfl rfl ?_
        refine s_ic_ne (p := 18) m_Wh_isOne rfl rfl (by omega) (by omega) (by omega) (by omega) (fun hbr => False.elim (by omega)) (fun hbr => ?_)
        refine fi_step (pc' := 19) m_Wh_isOne rfl rfl ?_
        first | refine t_get (p := 22) m_Wh_isOne rfl rfl (by assumption) rfl ?_ | refine o_get (p := 22) m_Wh_isOne rfl rfl (by assumption) (by assumption) rfl ?_
        refine s_if_ne (p := 25) m_Wh_isOne rfl rfl (by omega) (by omega) (fun hbr => False.elim (by omega)) (fun hbr => ?_)
        refine fi_step (pc' := 26) m_Wh_isOne rfl rfl ?_
        refine fi_step (pc' := 30) m_Wh_isOne rfl rfl ?_
        exact s_retb m_Wh_isOne rfl rfl (by omega) (by first | exact Or.inl rfl | exact Or.inr rfl | omega)
      · rw [if_neg (by omega)]
        refine fi_step (pc' := 1) m_Wh_isOne rfl rfl ?_
        first | refine t_get (p := 4) m_Wh_isOne rfl rfl (by assumption) rfl ?_ | refine o_get (p := 4) m_Wh_isOne rfl rfl (by assumption) (by assumption) rfl ?_
        refine fi_step (pc' := 5) m_Wh_isOne rfl rfl ?_
        refine s_ic_ne (p := 8) m_Wh_isOne rfl rfl (by omega) (by omega) (by omega) (by omega) (fun hbr => False.elim (by omega)) (fun hbr => ?_)
        refine fi_step (pc' := 9) m_Wh_isOne rfl rfl ?_
        first | refine t_get (p := 12) m_Wh_isOne rfl rfl (by assumption) rfl ?_ | refine o_get (p := 12) m_Wh_isOne rfl rfl (by assumption) (by assumption) rfl ?_
        refine fi_step (pc' := 13) m_Wh_isOne rfl rfl ?_
        first | refine t_ld (p := 14) m_Wh_isOne rfl rfl (by assumption) (by omega) (by omega) (by omega) ?_ | refine o_ld (p := 14) m_Wh_isOne rfl rfl (by assumption) (by assumption) (by omega) (by omega) (by omega) ?_
        refine fi_step (pc' := 15) m_Wh_isOne rfl rfl ?_
        refine s_ic_ne (p := 18) m_Wh_isOne rfl rfl (by omega) (by omega) (by omega) (by omega) (fun hbr => False.elim (by omega)) (fun hbr => ?_)
        refine fi_step (pc' := 19) m_Wh_isOne rfl rfl ?_
        first | refine t_get (p := 22) m_Wh_isOne rfl rfl (by assumption) rfl ?_ | refine o_get (p := 22) m_Wh_isOne rfl rfl (by assumption) (by assumption) rfl ?_
        refine s_if_ne (p := 25) m_Wh_isOne rfl rfl (by omega) (by omega) (fun hbr => ?_) (fun hbr => False.elim (by omega))
        refine fi_step (pc' := 30) m_Wh_isOne rfl rfl ?_
        exact s_retb m_Wh_isOne rfl rfl (by omega) (by first | exact Or.inl rfl | exact Or.inr rfl | omega)
    · rw [if_neg (by rcases hs with ⟨_, e⟩ | ⟨_, _, e⟩ <;> omega)]
      refine fi_step (pc' := 1) m_Wh_isOne rfl rfl ?_
      first | refine t_get (p := 4) m_Wh_isOne rfl rfl (by assumption) rfl ?_ | refine o_get (p := 4) m_Wh_isOne rfl rfl (by assumption) (by assumption) rfl ?_
      refine fi_step (pc' := 5) m_Wh_isOne rfl rfl ?_
      refine s_ic_ne (p := 8) m_Wh_isOne rfl rfl (by omega) (by omega) (by omega) (by omega) (fun hbr => False.elim (by omega)) (fun hbr => ?_)
      refine fi_step (pc' := 9) m_Wh_isOne rfl rfl ?_
      first | refine t_get (p := 12) m_Wh_isOne rfl rfl (by assumption) rfl ?_ | refine o_get (p := 12) m_Wh_isOne rfl rfl (by assumption) (by assumption) rfl ?_
      refine fi_step (pc' := 13) m_Wh_isOne rfl rfl ?_
      first | refine t_ld (p := 14) m_Wh_isOne rfl rfl (by assumption) (by omega) (by omega) (by omega) ?_ | refine o_ld (p := 14) m_Wh_isOne rfl rfl (by assumption) (by assumption) (by omega) (by omega) (by omega) ?_
      refine fi_step (pc' := 15) m_Wh_isOne rfl rfl ?_
      refine s_ic_ne (p := 18) m_Wh_isOne rfl rfl (by omega) (by omega) (by omega) (by omega) (fun hbr => ?_) (fun hbr => False.elim (by omega))
      refine fi_step (pc' := 30) m_Wh_isOne rfl rfl ?_
      exact s_retb m_Wh_isOne rfl rfl (by omega) (by first | exact Or.inl rfl | exact Or.inr rfl | omega)
  · have hne : v ≠ 1 := by
      intro e1
      have nn := dw_nn hd
      cases m with
      | zero => have e0 : dw f 0 = 0 := rfl
                rcases hs with ⟨_, e⟩ | ⟨_, _, e⟩ <;> omega
      | succ k =>
        have ge := dw_ge hd (hl k rfl)
        have : (1000000000 : Int) ^ 1 ≤ 1000000000 ^ k := pow_mono (by decide) (by omega)
        have h3 : (1000000000 : Int) ^ 1 = 1000000000 := by decide
        rcases hs with ⟨_, e⟩ | ⟨_, _, e⟩ <;> omega
    rw [if_neg hne]
    refine fi_step (pc' := 1) m_Wh_isOne rfl rfl ?_
    first | refine t_get (p := 4) m_Wh_isOne rfl rfl (by assumption) rfl ?_ | refine o_get (p := 4) m_Wh_isOne rfl rfl (by assumption) (by assumption) rfl ?_
    refine fi_step (pc' := 5) m_Wh_isOne rfl rfl ?_
    refine s_ic_ne (p := 8) m_Wh_isOne rfl rfl (by omega) (by omega) (by omega) (by omega) (fun hbr => ?_) (fun hbr => False.elim (by omega))
    refine fi_step (pc' := 30) m_Wh_isOne rfl rfl ?_
    exact s_retb m_Wh_isOne rfl rfl (by omega) (by first | exact Or.inl rfl | exact Or.inr rfl | omega)
theorem h_value {v : Int} (hw : TW w0 w c d cap f n b) (hv : Wv f n b v) (hc : cap < 100000) (hn : n ≤ 2) (h2 : 2 ≤ cap) :
    fin xs fr lo 40 0 (ax_ent [.ref c] 3) [] w (Same (.long (jL v)) w) := by
  obtain ⟨m, rfl, hd, hl, hs⟩ := hv
  have key : ∀ (sz : Int) (y : Option Value), sz = dw f m → fin xs fr lo 40 41 [some (.ref c), some (.long (jL sz)), none] [] w (Same (.long (jL v)) w) := by
    intro sz y hz
    rcases hs with ⟨rfl, e⟩ | ⟨rfl, _, e⟩
    · refine fi_step (pc' := 42) m_Wh_value rfl rfl ?_
      first | refine t_get (p := 45) m_Wh_value rfl rfl (by assumption) rfl ?_ | refine o_get (p := 45) m_Wh_value rfl rfl (by assumption) (by assumption) rfl ?_
      refine s_if_eq (p := 48) m_Wh_value rfl rfl (by omega) (by omega) (fun hbr => ?_) (fun hbr => False.elim (by omega))
      refine fi_step (pc' := 54) m_Wh_value rfl rfl ?_
      exact s_retl m_Wh_value rfl rfl (by omega)
    · refine fi_step (pc' := 42) m_Wh_value rfl rfl ?_
      first | refine t_get (p := 45) m_Wh_value rfl rfl (by assumption) rfl ?_ | refine o_get (p := 45) m_Wh_value rfl rfl (by assumption) (by assumption) rfl ?_
      refine s_if_eq (p := 48) m_Wh_value rfl rfl (by omega) (by omega) (fun hbr => False.elim (by omega)) (fun hbr => ?_)
      refine fi_step (pc' := 49) m_Wh_value rfl rfl ?_
      refine s_lneg (p := 50) m_Wh_value rfl rfl ?_
      refine fi_step (pc' := 54) m_Wh_value rfl rfl ?_
      exact s_retl m_Wh_value rfl rfl (by omega)
  have e2 : m ≤ 2 := by omega
  rcases (show m = 0 ∨ m = 1 ∨ m = 2 by omega) with rfl | rfl | rfl
  · refine fi_step (pc' := 1) m_Wh_value rfl rfl ?_
    first | refine t_get (p := 4) m_Wh_value rfl rfl (by assumption) rfl ?_ | refine o_get (p := 4) m_Wh_value rfl rfl (by assumption) (by assumption) rfl ?_
    refine s_if_le (p := 7) m_Wh_value rfl rfl (by omega) (by omega) (fun hbr => ?_) (fun hbr => False.elim (by omega))
    refine s_lconst (p := 18) (v := 0) m_Wh_value rfl rfl rfl ?_
    refine fi_step (pc' := 19) m_Wh_value rfl rfl ?_
    refine fi_step (pc' := 20) m_Wh_value rfl rfl ?_
    first | refine t_get (p := 23) m_Wh_value rfl rfl (by assumption) rfl ?_ | refine o_get (p := 23) m_Wh_value rfl rfl (by assumption) (by assumption) rfl ?_
    refine fi_step (pc' := 24) m_Wh_value rfl rfl ?_
    refine s_ic_le (p := 27) m_Wh_value rfl rfl (by omega) (by omega) (by omega) (by omega) (fun hbr => ?_) (fun hbr => False.elim (by omega))
    exact key 0 none rfl
  · have d0 := hd 0 (by omega)
    simp only [Int.ofNat_zero] at d0
    refine fi_step (pc' := 1) m_Wh_value rfl rfl ?_
    first | refine t_get (p := 4) m_Wh_value rfl rfl (by assumption) rfl ?_ | refine o_get (p := 4) m_Wh_value rfl rfl (by assumption) (by assumption) rfl ?_
    refine s_if_le (p := 7) m_Wh_value rfl rfl (by omega) (by omega) (fun hbr => False.elim (by omega)) (fun hbr => ?_)
    refine fi_step (pc' := 8) m_Wh_value rfl rfl ?_
    first | refine t_get (p := 11) m_Wh_value rfl rfl (by assumption) rfl ?_ | refine o_get (p := 11) m_Wh_value rfl rfl (by assumption) (by assumption) rfl ?_
    refine fi_step (pc' := 12) m_Wh_value rfl rfl ?_
    first | refine t_ld (p := 13) m_Wh_value rfl rfl (by assumption) (by omega) (by omega) (by omega) ?_ | refine o_ld (p := 13) m_Wh_value rfl rfl (by assumption) (by assumption) (by omega) (by omega) (by omega) ?_
    refine s_i2l (p := 14) m_Wh_value rfl rfl (by omega) (by omega) ?_
    refine fi_step (pc' := 18) m_Wh_value rfl rfl ?_
    refine fi_step (pc' := 19) m_Wh_value rfl rfl ?_
    refine fi_step (pc' := 20) m_Wh_value rfl rfl ?_
    first | refine t_get (p := 23) m_Wh_value rfl rfl (by assumption) rfl ?_ | refine o_get (p := 23) m_Wh_value rfl rfl (by assumption) (by assumption) rfl ?_
    refine fi_step (pc' := 24) m_Wh_value rfl rfl ?_
    refine s_ic_le (p := 27) m_Wh_value rfl rfl (by omega) (by omega) (by omega) (by omega) (fun hbr => ?_) (fun hbr => False.elim (by omega))
    exact key _ none (by rw [dw_succ]; simp [dw, dvB])
  · have d0 := hd 0 (by omega)
    have d1 := hd 1 (by omega)
    simp only [Int.ofNat_zero, Int.ofNat_one] at d0 d1
    refine fi_step (pc' := 1) m_Wh_value rfl rfl ?_
    first | refine t_get (p := 4) m_Wh_value rfl rfl (by assumption) rfl ?_ | refine o_get (p := 4) m_Wh_value rfl rfl (by assumption) (by assumption) rfl ?_
    refine s_if_le (p := 7) m_Wh_value rfl rfl (by omega) (by omega) (fun hbr => False.elim (by omega)) (fun hbr => ?_)
    refine fi_step (pc' := 8) m_Wh_value rfl rfl ?_
    first | refine t_get (p := 11) m_Wh_value rfl rfl (by assumption) rfl ?_ | refine o_get (p := 11) m_Wh_value rfl rfl (by assumption) (by assumption) rfl ?_
    refine fi_step (pc' := 12) m_Wh_value rfl rfl ?_
    first | refine t_ld (p := 13) m_Wh_value rfl rfl (by assumption) (by omega) (by omega) (by omega) ?_ | refine o_ld (p := 13) m_Wh_value rfl rfl (by assumption) (by assumption) (by omega) (by omega) (by omega) ?_
    refine s_i2l (p := 14) m_Wh_value rfl rfl (by omega) (by omega) ?_
    refine fi_step (pc' := 18) m_Wh_value rfl rfl ?_
    refine fi_step (pc' := 19) m_Wh_value rfl rfl ?_
    refine fi_step (pc' := 20) m_Wh_value rfl rfl ?_
    first | refine t_get (p := 23) m_Wh_value rfl rfl (by assumption) rfl ?_ | refine o_get (p := 23) m_Wh_value rfl rfl (by assumption) (by assumption) rfl ?_
    refine fi_step (pc' := 24) m_Wh_value rfl rfl ?_
    refine s_ic_le (p := 27) m_Wh_value rfl rfl (by omega) (by omega) (by omega) (by omega) (fun hbr => False.elim (by omega)) (fun hbr => ?_)
    refine fi_step (pc' := 28) m_Wh_value rfl rfl ?_
    refine fi_step (pc' := 29) m_Wh_value rfl rfl ?_
    first | refine t_get (p := 32) m_Wh_value rfl rfl (by assumption) rfl ?_ | refine o_get (p := 32) m_Wh_value rfl rfl (by assumption) (by assumption) rfl ?_
    refine fi_step (pc' := 33) m_Wh_value rfl rfl ?_
    first | refine t_ld (p := 34) m_Wh_value rfl rfl (by assumption) (by omega) (by omega) (by omega) ?_ | refine o_ld (p := 34) m_Wh_value rfl rfl (by assumption) (by assumption) (by omega) (by omega) (by omega) ?_
    refine s_i2l (p := 35) m_Wh_value rfl rfl (by omega) (by omega) ?_
    refine s_ldc2 (p := 38) 1000000000 m_Wh_value rfl rfl rfl ?_
    refine s_lmul (p := 39) m_Wh_value rfl rfl ?_
    refine s_ladd (p := 40) m_Wh_value rfl rfl ?_
    refine fi_step (pc' := 41) m_Wh_value rfl rfl ?_
    exact key _ none (by rw [dw_succ, dw_succ]; simp [dw, dvB])
theorem h_rangeCheck {L a t : Int} (a0 : 0 ≤ a) (at' : a ≤ t) (tL : t ≤ L) (hL : L < 100000) : fin xs fr lo 11 0 (ax_ent [.int (jI L), .int (jI a), .int (jI t)] 3) [] w (Ret fun u w' => u = none ∧ w' = w) := by
  refine fi_step (pc' := 1) m_Ar_rangeCheck rfl rfl ?_
  refine fi_step (pc' := 2) m_Ar_rangeCheck rfl rfl ?_
  refine s_ic_le (p := 5) m_Ar_rangeCheck rfl rfl (by omega) (by omega) (by omega) (by omega) (fun hbr => ?_) (fun hbr => False.elim (by omega))
  refine fi_step (pc' := 47) m_Ar_rangeCheck rfl rfl ?_
  refine s_if_ge (p := 50) m_Ar_rangeCheck rfl rfl (by omega) (by omega) (fun hbr => ?_) (fun hbr => False.elim (by omega))
  refine fi_step (pc' := 60) m_Ar_rangeCheck rfl rfl ?_
  refine fi_step (pc' := 61) m_Ar_rangeCheck rfl rfl ?_
  refine s_ic_le (p := 64) m_Ar_rangeCheck rfl rfl (by omega) (by omega) (by omega) (by omega) (fun hbr => ?_) (fun hbr => False.elim (by omega))
  refine p_ret m_Ar_rangeCheck rfl rfl ?_
  exact ⟨rfl, rfl⟩
theorem fill_loop {a t : Nat} (ht : t ≤ cap) (hc : cap < 100000) : ∀ (k i : Nat) (w : ax_W) (f' : Int → Int), i + k = t → a ≤ i → TW w0 w c d cap f' n b → (∀ j : Nat, a ≤ j → j < i → f' j = 0) → (∀ j : Nat, ¬ (a ≤ j ∧ j < i) → f' j = f j) →
    fin xs fr lo 10 10 [some (.ref d), some (.int (jI a)), some (.int (jI t)), some (.int (jI 0)), some (.int (jI i))] [] w (Ret fun u w' => u = none ∧ ∃ f', TW w0 w' c d cap f' n b ∧ (∀ j : Nat, a ≤ j → j < t → f' j = 0) ∧ ∀ j : Nat, ¬ (a ≤ j ∧ j < t) → f' j = f j) := by
  intro k
  induction k with
  | zero =>
    intro i w f' hi ha hw hz hs
    obtain rfl : i = t := by omega
    refine fi_step (pc' := 12) m_Ar_fillI rfl rfl ?_
    refine fi_step (pc' := 13) m_Ar_fillI rfl rfl ?_
    refine s_ic_ge (p := 16) m_Ar_fillI rfl rfl (by omega) (by omega) (by omega) (by omega) (fun hbr => ?_) (fun hbr => False.elim (by omega))
    refine p_ret m_Ar_fillI rfl rfl ?_
    exact ⟨rfl, f', hw, hz, hs⟩
  | succ k ih =>
    intro i w f' hi ha hw hz hs
    refine fi_step (pc' := 12) m_Ar_fillI rfl rfl ?_
    refine fi_step (pc' := 13) m_Ar_fillI rfl rfl ?_
    refine s_ic_ge (p := 16) m_Ar_fillI rfl rfl (by omega) (by omega) (by omega) (by omega) (fun hbr => False.elim (by omega)) (fun hbr => ?_)
    refine fi_step (pc' := 17) m_Ar_fillI rfl rfl ?_
    refine fi_step (pc' := 19) m_Ar_fillI rfl rfl ?_
    refine fi_step (pc' := 20) m_Ar_fillI rfl rfl ?_
    refine t_st (p := 21) m_Ar_fillI rfl rfl (by assumption) (by omega) (by omega) (by omega) (fun w hw => ?_)
    refine s_iinc (p := 24) m_Ar_fillI rfl rfl rfl ?_
    refine fi_step (pc' := 10) m_Ar_fillI rfl rfl ?_
    refine ih (i + 1) w _ (by omega) (by omega) hw (fun j h0 h1 => ?_) (fun j hj => ?_)
    · by_cases e : j = i
      · subst e; rw [up1_same]
      · rw [up1_ne _ (by omega)]; exact hz j h0 (by omega)
    · rw [up1_ne _ (by omega)]; exact hs j (by omega)
theorem h_fill {a t : Nat} (hw : TW w0 w c d cap f n b) (hat : a ≤ t) (ht : t ≤ cap) (hc : cap < 100000) (hfr : 1 ≤ fr) (hlo : 22 ≤ lo) :
    fin xs fr lo 10 0 (ax_ent [.ref d, .int (jI a), .int (jI t), .int (jI 0)] 5) [] w (Ret fun u w' => u = none ∧ ∃ f', TW w0 w' c d cap f' n b ∧ (∀ j : Nat, a ≤ j → j < t → f' j = 0) ∧ ∀ j : Nat, ¬ (a ≤ j ∧ j < t) → f' j = f j) := by
  refine fi_step (pc' := 1) m_Ar_fillI rfl rfl ?_
  refine t_len (p := 2) m_Ar_fillI rfl rfl (by assumption) ?_
  refine fi_step (pc' := 3) m_Ar_fillI rfl rfl ?_
  refine fi_step (pc' := 4) m_Ar_fillI rfl rfl ?_
  refine g_3 (p := 7) m_Ar_fillI rfl inv_s (by decide) m_Ar_rangeCheck rfl rfl (by omega) (by omega) (Nat.le_of_ble_eq_true rfl) (Nat.le_of_ble_eq_true rfl) rfl (h_rangeCheck (by omega) (by omega) (by omega) (by omega)) (fun v w hP => ?_)
  obtain ⟨rfl, rfl⟩ := hP
  refine fi_step (pc' := 8) m_Ar_fillI rfl rfl ?_
  refine fi_step (pc' := 10) m_Ar_fillI rfl rfl ?_
  exact fill_loop ht hc (t - a) a w f (by omega) (by omega) hw (fun j _ _ => by omega) (fun j _ => rfl)
end WH2
