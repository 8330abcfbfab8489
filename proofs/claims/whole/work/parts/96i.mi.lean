/-! THE CLASS: minors, a row taken in -/
theorem andw_all : ∀ x y : Fin 64, (jI ((x : Nat) : Int) &&& jI (-1 - ((y : Nat) : Int)) == 0) = (els 6 ((x : Nat) : Int)).all (fun k => (els 6 ((y : Nat) : Int)).contains k) := by decide +kernel
theorem andb_all : ∀ (x : Fin 64) (k : Fin 6), jI ((x : Nat) : Int) &&& jI (2 ^ (k : Nat)) = jI (if ((x : Nat) : Int) / 2 ^ (k : Nat) % 2 = 1 then 2 ^ (k : Nat) else 0) := by decide
theorem xorb_all : ∀ (x : Fin 64) (k : Fin 6), ((x : Nat) : Int) / 2 ^ (k : Nat) % 2 = 1 → jI ((x : Nat) : Int) ^^^ jI (2 ^ (k : Nat)) = jI (((x : Nat) : Int) - 2 ^ (k : Nat)) := by decide
/-- a set is part of a set -/
def subE (x y : Int) : Prop := ∀ k, k ∈ els 6 x → k ∈ els 6 y
theorem andw_sub {x y : Int} (x0 : 0 ≤ x) (x1 : x < 64) (y0 : 0 ≤ y) (y1 : y < 64) : (jI x &&& jI (-1 - y)).toInt = 0 ↔ subE x y := by
  have h := andw_all ⟨x.toNat, by omega⟩ ⟨y.toNat, by omega⟩
  simp only [Int.toNat_of_nonneg x0, Int.toNat_of_nonneg y0] at h
  have h1 : (jI x &&& jI (-1 - y)).toInt = 0 ↔ (jI x &&& jI (-1 - y)) = 0 := by
    constructor
    · intro e; exact Int32.toInt_inj.mp (by rw [e]; rfl)
    · intro e; rw [e]; rfl
  rw [h1]
  unfold subE
  constructor
  · intro e k hk
    rw [e] at h
    have h2 := List.all_eq_true.mp h.symm k hk
    exact List.contains_iff_mem.mp h2
  · intro hs
    have h2 : (els 6 x).all (fun k => (els 6 y).contains k) = true := List.all_eq_true.mpr (fun k hk => List.contains_iff_mem.mpr (hs k hk))
    rw [h2] at h
    exact eq_of_beq h
theorem bc_all : ∀ x : Fin 64, (fun x : Int32 =>
    let a := x - ((x.toUInt32 >>> (Int32.toUInt32 1 &&& Int32.toUInt32 31)).toInt32 &&& 1431655765)
    let b := (a &&& 858993459) + ((a.toUInt32 >>> (Int32.toUInt32 2 &&& Int32.toUInt32 31)).toInt32 &&& 858993459)
    let c := (b + (b.toUInt32 >>> (Int32.toUInt32 4 &&& Int32.toUInt32 31)).toInt32) &&& 252645135
    let d := c + (c.toUInt32 >>> (Int32.toUInt32 8 &&& Int32.toUInt32 31)).toInt32
    (d + (d.toUInt32 >>> (Int32.toUInt32 16 &&& Int32.toUInt32 31)).toInt32) &&& 63) (jI ((x : Nat) : Int)) = jI ((els 6 ((x : Nat) : Int)).length : Nat) := by decide +kernel
theorem bit_mem {t : Nat} {x : Int} : ∀ n : Nat, (t : Int) ∈ els n x → x / 2 ^ t % 2 = 1 := by
  intro n
  induction n with
  | zero => intro h; simp [els] at h
  | succ n ih =>
    intro h
    rw [els] at h
    split at h
    · rename_i hb
      rcases List.mem_cons.mp h with e | e
      · have : t = n := by omega
        subst this; exact hb
      · exact ih e
    · exact ih h
theorem els_le {x : Int} {n : Nat} : ∀ {m : Nat}, n ≤ m → (els n x).length ≤ (els m x).length
  | 0, h => by obtain rfl : n = 0 := by omega
               exact Nat.le_refl _
  | m + 1, h => by
    by_cases e : n = m + 1
    · rw [e]; exact Nat.le_refl _
    · have := els_le (x := x) (n := n) (m := m) (by omega)
      rw [els]
      split
      · rw [List.length_cons]; omega
      · exact this
/-- the minor of these rows, the last first, in these columns -/
def dY (g : Int → Int) (ys : List Int) (x : Int) : Int := det (ys.map (fun i j => g (12 * i + j))) (els 6 x)
theorem dY_cons {g : Int → Int} {ys : List Int} {r x : Int} (x0 : 0 ≤ x) (x1 : x < 64) : dY g (r :: ys) x = asum (fun j => g (12 * r + j) * dY g ys (x - 2 ^ j.toNat)) (els 6 x) := by
  unfold dY
  rw [List.map_cons, det_cons, picks_nd (S_nd x0 x1), asum_map]
  refine asum_congr (fun j hj => ?_)
  have hm := els_mem hj
  obtain ⟨t, rfl⟩ := Int.eq_ofNat_of_zero_le hm.1
  have h1 := S_er x0 x1 (show t < 6 by omega) (bit_mem 6 hj)
  simp only
  rw [Int.toNat_natCast, h1.1]
theorem dY_bound {g : Int → Int} {ys : List Int} {x E : Int} (E0 : 0 ≤ E) (hl : ys.length = (els 6 x).length) (h : ∀ i, i ∈ ys → ∀ j, j ∈ els 6 x → ((g (12 * i + j)).natAbs : Int) ≤ E) : ((dY g ys x).natAbs : Int) ≤ fac ys.length * E ^ ys.length := by
  have := det_bound E0 (vs := ys.map (fun i j => g (12 * i + j))) (J := els 6 x) (by rw [List.length_map]; exact hl) (fun v hv j hj => by
    obtain ⟨i, hi, rfl⟩ := List.mem_map.mp hv
    exact h i hi j hj)
  rw [← hl] at this
  exact this
theorem fac_6 : ∀ c : Fin 7, fac (c : Nat) ≤ 720 := by decide
theorem pow_base {a b : Int} (a0 : 0 ≤ a) (h : a ≤ b) : ∀ c : Nat, a ^ c ≤ b ^ c
  | 0 => by simp
  | c + 1 => by
    rw [Int.pow_succ, Int.pow_succ]
    exact Int.mul_le_mul (pow_base a0 h c) h a0 (Int.pow_nonneg (by omega))
theorem fac_dig {E : Int} {e c : Nat} (E0 : 0 ≤ E) (hE : E < 1000000000 ^ e) (hc : c ≤ 6) : fac c * E ^ c < 1000000000 ^ (e * c + 1) := by
  have h1 := fac_6 ⟨c, by omega⟩
  simp only at h1
  have h2 : E ^ c ≤ (1000000000 ^ e) ^ c := pow_base E0 (by omega) c
  rw [← Int.pow_mul] at h2
  have h3 : (0 : Int) < 1000000000 ^ (e * c) := Int.pow_pos (by decide)
  have h4 : fac c * E ^ c ≤ 720 * 1000000000 ^ (e * c) := Int.mul_le_mul h1 h2 (Int.pow_nonneg E0) (by decide)
  rw [Int.pow_succ]
  generalize (1000000000 : Int) ^ (e * c) = P at *
  omega
theorem i_min {x : Nat} (hx : x < 64) : isWh (104 + 2 * x) := isWh_iff.mpr (by omega)
theorem i_num {k : Nat} (hk : k < 36) : isWh (31 + 2 * k) := isWh_iff.mpr (by omega)
theorem cap_min {x : Nat} (hx : x < 64) : capB (104 + 2 * x) = 260 := by unfold capB; rw [if_pos (by omega)]
theorem cap_num {k : Nat} (hk : k < 36) : capB (31 + 2 * k) = 260 := by unfold capB; rw [if_pos (by omega)]
section MI1
variable {xs : List Int32} {fr lo z pc p l u1 u2 u3 : Nat} {ls : List (Option Value)} {st : List Value} {w0 w : ax_W} {Q : Outcome → ax_W → Prop} {M : ax_M} {s : mo_S} {v : Nat → Int} {L Z : Nat} {x y : Int} {k : Nat}
theorem b_andw (hM : ax_prog[z]? = some M) (he : M.1[pc]? = some (some (.iand, l, u1, u2, u3))) (hp : pc + l = p) (kk : fin xs fr lo z p ls (.int (jI (jI x &&& jI (-1 - y)).toInt) :: st) w Q) : fin xs fr lo z pc ls (.int (jI (-1 - y)) :: .int (jI x) :: st) w Q := by
  subst hp
  rw [show jI (jI x &&& jI (-1 - y)).toInt = jI x &&& jI (-1 - y) from Int32.ofInt_toInt _] at kk
  exact fi_step hM he rfl kk
theorem b_andb (hM : ax_prog[z]? = some M) (he : M.1[pc]? = some (some (.iand, l, u1, u2, u3))) (hp : pc + l = p) (x0 : 0 ≤ x) (x1 : x < 64) (hk : k < 6) (kk : fin xs fr lo z p ls (.int (jI (if x / 2 ^ k % 2 = 1 then 2 ^ k else 0)) :: st) w Q) : fin xs fr lo z pc ls (.int (jI (2 ^ k)) :: .int (jI x) :: st) w Q := by
  subst hp
  have h := andb_all ⟨x.toNat, by omega⟩ ⟨k, hk⟩
  simp only [Int.toNat_of_nonneg x0] at h
  rw [← h] at kk
  exact fi_step hM he rfl kk
theorem b_xorb (hM : ax_prog[z]? = some M) (he : M.1[pc]? = some (some (.ixor, l, u1, u2, u3))) (hp : pc + l = p) (x0 : 0 ≤ x) (x1 : x < 64) (hk : k < 6) (hb : x / 2 ^ k % 2 = 1) (kk : fin xs fr lo z p ls (.int (jI (x - 2 ^ k)) :: st) w Q) : fin xs fr lo z pc ls (.int (jI (2 ^ k)) :: .int (jI x) :: st) w Q := by
  subst hp
  have h := xorb_all ⟨x.toNat, by omega⟩ ⟨k, hk⟩
  simp only [Int.toNat_of_nonneg x0] at h
  rw [← h hb] at kk
  exact fi_step hM he rfl kk
theorem i_ldM (hM : ax_prog[z]? = some M) (he : M.1[pc]? = some (some (.aaload, l, u1, u2, u3))) (hp : pc + l = p) (hC : CW w0 w s v L Z) (h0 : 0 ≤ x) (h1 : x < 64) (kk : fin xs fr lo z p ls (.ref (104 + 2 * x.toNat) :: st) w Q) : fin xs fr lo z pc ls (.int (jI x) :: .ref 103 :: st) w Q := by
  subst hp
  exact fi_aald hM he (CW_cst hC).2.2.2.2.2.1 (by decide) (jI_nn h0 (by omega)) (rg_get (f := fun (i : Nat) => .ref (104 + 2 * i)) h0 h1 (by decide)) kk
theorem i_ldN (hM : ax_prog[z]? = some M) (he : M.1[pc]? = some (some (.aaload, l, u1, u2, u3))) (hp : pc + l = p) (hC : CW w0 w s v L Z) (h0 : 0 ≤ x) (h1 : x < 36) (kk : fin xs fr lo z p ls (.ref (31 + 2 * x.toNat) :: st) w Q) : fin xs fr lo z pc ls (.int (jI x) :: .ref 30 :: st) w Q := by
  subst hp
  exact fi_aald hM he (CW_cst hC).2.2.2.2.1 (by decide) (jI_nn h0 (by omega)) (rg_get (f := fun (i : Nat) => .ref (31 + 2 * i)) h0 h1 (by decide)) kk
theorem in_bitCount (x0 : 0 ≤ x) (x1 : x < 64) : fin xs fr lo 52 0 (ax_ent [.int (jI x)] 1) [] w (Same (.int (jI ((els 6 x).length : Nat))) w) := by
  have hb := bc_all ⟨x.toNat, by omega⟩
  simp only [Int.toNat_of_nonneg x0] at hb
  refine fi_step (pc' := 1) m_In_bitCount rfl rfl ?_
  refine fi_step (pc' := 2) m_In_bitCount rfl rfl ?_
  refine fi_step (pc' := 3) m_In_bitCount rfl rfl ?_
  refine fi_step (pc' := 4) m_In_bitCount rfl rfl ?_
  refine fi_step (pc' := 7) m_In_bitCount rfl rfl ?_
  refine fi_step (pc' := 8) m_In_bitCount rfl rfl ?_
  refine fi_step (pc' := 9) m_In_bitCount rfl rfl ?_
  refine fi_step (pc' := 10) m_In_bitCount rfl rfl ?_
  refine fi_step (pc' := 11) m_In_bitCount rfl rfl ?_
  refine fi_step (pc' := 14) m_In_bitCount rfl rfl ?_
  refine fi_step (pc' := 15) m_In_bitCount rfl rfl ?_
  refine fi_step (pc' := 16) m_In_bitCount rfl rfl ?_
  refine fi_step (pc' := 17) m_In_bitCount rfl rfl ?_
  refine fi_step (pc' := 18) m_In_bitCount rfl rfl ?_
  refine fi_step (pc' := 21) m_In_bitCount rfl rfl ?_
  refine fi_step (pc' := 22) m_In_bitCount rfl rfl ?_
  refine fi_step (pc' := 23) m_In_bitCount rfl rfl ?_
  refine fi_step (pc' := 24) m_In_bitCount rfl rfl ?_
  refine fi_step (pc' := 25) m_In_bitCount rfl rfl ?_
  refine fi_step (pc' := 26) m_In_bitCount rfl rfl ?_
  refine fi_step (pc' := 27) m_In_bitCount rfl rfl ?_
  refine fi_step (pc' := 28) m_In_bitCount rfl rfl ?_
  refine fi_step (pc' := 29) m_In_bitCount rfl rfl ?_
  refine fi_step (pc' := 32) m_In_bitCount rfl rfl ?_
  refine fi_step (pc' := 33) m_In_bitCount rfl rfl ?_
  refine fi_step (pc' := 34) m_In_bitCount rfl rfl ?_
  refine fi_step (pc' := 35) m_In_bitCount rfl rfl ?_
  refine fi_step (pc' := 36) m_In_bitCount rfl rfl ?_
  refine fi_step (pc' := 38) m_In_bitCount rfl rfl ?_
  refine fi_step (pc' := 39) m_In_bitCount rfl rfl ?_
  refine fi_step (pc' := 40) m_In_bitCount rfl rfl ?_
  refine fi_step (pc' := 41) m_In_bitCount rfl rfl ?_
  refine fi_step (pc' := 42) m_In_bitCount rfl rfl ?_
  refine fi_step (pc' := 43) m_In_bitCount rfl rfl ?_
  refine fi_step (pc' := 45) m_In_bitCount rfl rfl ?_
  refine fi_step (pc' := 46) m_In_bitCount rfl rfl ?_
  refine fi_step (pc' := 47) m_In_bitCount rfl rfl ?_
  refine fi_step (pc' := 48) m_In_bitCount rfl rfl ?_
  refine fi_step (pc' := 49) m_In_bitCount rfl rfl ?_
  refine fi_step (pc' := 51) m_In_bitCount rfl rfl ?_
  refine fi_step (pc' := 52) m_In_bitCount rfl rfl ?_
  refine fi_ret m_In_bitCount rfl rfl ⟨?_, rfl⟩
  rw [← hb]
  rfl
theorem de_all {n : Nat} (hn : n ≤ 6) : fin xs fr lo 50 0 (ax_ent [.int (jI (n : Int))] 1) [] w (Same (.int (jI (2 ^ n - 1))) w) := by
  refine fi_step (pc' := 1) m_De_all rfl rfl ?_
  refine fi_step (pc' := 2) m_De_all rfl rfl ?_
  refine b_ishl (p := 3) m_De_all rfl rfl (by omega) (by omega) ?_
  rw [Int.toNat_natCast]
  refine fi_step (pc' := 4) m_De_all rfl rfl ?_
  refine s_isub (p := 5) m_De_all rfl rfl ?_
  exact s_reti m_De_all rfl rfl (by rfl)
end MI1
