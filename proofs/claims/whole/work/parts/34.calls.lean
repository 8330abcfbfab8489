/-! calls with so many values; shifts and masks of whole numbers -/
theorem inv_v {idx : Nat} : ax_isinv (.invokevirtual idx) := Or.inl ⟨_, rfl⟩
theorem inv_s {idx : Nat} : ax_isinv (.invokestatic idx) := Or.inr (Or.inl ⟨_, rfl⟩)
theorem inv_p {idx : Nat} : ax_isinv (.invokespecial idx) := Or.inr (Or.inr ⟨_, rfl⟩)
section CALLN
variable {xs : List Int32} {fr lo z pc p l zc b u3 : Nat} {i : Instr} {ls : List (Option Value)} {rest : List Value} {w : ax_W} {Q : Outcome → ax_W → Prop} {P : Option Value → ax_W → Prop} {M : ax_M} {kc : List (Option ax_E)} {nl rc : Nat} {tb : List (Nat × Nat × Nat × Nat)} {x0 x1 x2 x3 x4 x5 v : Value}
theorem c_0 (hM : ax_prog[z]? = some M) (he : M.1[pc]? = some (some (i, l, zc, b, u3))) (hi : ax_isinv i) (hz : zc < 1000) (hM' : ax_prog[zc]? = some (kc, nl, rc, tb)) (hb : b % 100 = 0) (hp : pc + 3 = p) (hfr : 1 ≤ fr) (hlo : nl + 19 ≤ lo) (hwt : (rest.map ax_wt).sum ≤ 8) (hsl : (ax_sl []).length ≤ nl) (hrc : ax_rcv (b / 100) [] w = true)
    (hc : fin xs (fr - 1) (lo - (nl + 19)) zc 0 (ax_ent [] nl) [] w (Same v w)) (k : fin xs fr lo z p ls (v :: rest) w Q) : fin xs fr lo z pc ls (rest) w Q := by
  subst hp; refine fi_call hM he hi rfl rfl hz hM' hfr hlo (as := []) rfl hb.symm hwt hsl hrc hc (fun v' w1 h => ?_) (fun i w1 h => by cases h.1)
  obtain ⟨h1, rfl⟩ := h; cases h1; exact k
theorem g_0 (hM : ax_prog[z]? = some M) (he : M.1[pc]? = some (some (i, l, zc, b, u3))) (hi : ax_isinv i) (hz : zc < 1000) (hM' : ax_prog[zc]? = some (kc, nl, rc, tb)) (hb : b % 100 = 0) (hp : pc + 3 = p) (hfr : 1 ≤ fr) (hlo : nl + 19 ≤ lo) (hwt : (rest.map ax_wt).sum ≤ 8) (hsl : (ax_sl []).length ≤ nl) (hrc : ax_rcv (b / 100) [] w = true)
    (hc : fin xs (fr - 1) (lo - (nl + 19)) zc 0 (ax_ent [] nl) [] w (Ret P)) (k : ∀ v w1, P v w1 → fin xs fr lo z p ls (v.toList ++ rest) w1 Q) : fin xs fr lo z pc ls (rest) w Q := by
  subst hp; refine fi_call hM he hi rfl rfl hz hM' hfr hlo (as := []) rfl hb.symm hwt hsl hrc hc (fun v' w1 h => ?_) (fun i w1 h => by obtain ⟨v, h1, _⟩ := h; cases h1)
  obtain ⟨v, h1, h2⟩ := h; cases h1; exact k _ _ h2
theorem c_1 (hM : ax_prog[z]? = some M) (he : M.1[pc]? = some (some (i, l, zc, b, u3))) (hi : ax_isinv i) (hz : zc < 1000) (hM' : ax_prog[zc]? = some (kc, nl, rc, tb)) (hb : b % 100 = 1) (hp : pc + 3 = p) (hfr : 1 ≤ fr) (hlo : nl + 19 ≤ lo) (hwt : (rest.map ax_wt).sum ≤ 8) (hsl : (ax_sl [x0]).length ≤ nl) (hrc : ax_rcv (b / 100) [x0] w = true)
    (hc : fin xs (fr - 1) (lo - (nl + 19)) zc 0 (ax_ent [x0] nl) [] w (Same v w)) (k : fin xs fr lo z p ls (v :: rest) w Q) : fin xs fr lo z pc ls (x0 :: rest) w Q := by
  subst hp; refine fi_call hM he hi rfl rfl hz hM' hfr hlo (as := [x0]) rfl hb.symm hwt hsl hrc hc (fun v' w1 h => ?_) (fun i w1 h => by cases h.1)
  obtain ⟨h1, rfl⟩ := h; cases h1; exact k
theorem g_1 (hM : ax_prog[z]? = some M) (he : M.1[pc]? = some (some (i, l, zc, b, u3))) (hi : ax_isinv i) (hz : zc < 1000) (hM' : ax_prog[zc]? = some (kc, nl, rc, tb)) (hb : b % 100 = 1) (hp : pc + 3 = p) (hfr : 1 ≤ fr) (hlo : nl + 19 ≤ lo) (hwt : (rest.map ax_wt).sum ≤ 8) (hsl : (ax_sl [x0]).length ≤ nl) (hrc : ax_rcv (b / 100) [x0] w = true)
    (hc : fin xs (fr - 1) (lo - (nl + 19)) zc 0 (ax_ent [x0] nl) [] w (Ret P)) (k : ∀ v w1, P v w1 → fin xs fr lo z p ls (v.toList ++ rest) w1 Q) : fin xs fr lo z pc ls (x0 :: rest) w Q := by
  subst hp; refine fi_call hM he hi rfl rfl hz hM' hfr hlo (as := [x0]) rfl hb.symm hwt hsl hrc hc (fun v' w1 h => ?_) (fun i w1 h => by obtain ⟨v, h1, _⟩ := h; cases h1)
  obtain ⟨v, h1, h2⟩ := h; cases h1; exact k _ _ h2
theorem c_2 (hM : ax_prog[z]? = some M) (he : M.1[pc]? = some (some (i, l, zc, b, u3))) (hi : ax_isinv i) (hz : zc < 1000) (hM' : ax_prog[zc]? = some (kc, nl, rc, tb)) (hb : b % 100 = 2) (hp : pc + 3 = p) (hfr : 1 ≤ fr) (hlo : nl + 19 ≤ lo) (hwt : (rest.map ax_wt).sum ≤ 8) (hsl : (ax_sl [x0, x1]).length ≤ nl) (hrc : ax_rcv (b / 100) [x0, x1] w = true)
    (hc : fin xs (fr - 1) (lo - (nl + 19)) zc 0 (ax_ent [x0, x1] nl) [] w (Same v w)) (k : fin xs fr lo z p ls (v :: rest) w Q) : fin xs fr lo z pc ls (x1 :: x0 :: rest) w Q := by
  subst hp; refine fi_call hM he hi rfl rfl hz hM' hfr hlo (as := [x0, x1]) rfl hb.symm hwt hsl hrc hc (fun v' w1 h => ?_) (fun i w1 h => by cases h.1)
  obtain ⟨h1, rfl⟩ := h; cases h1; exact k
theorem g_2 (hM : ax_prog[z]? = some M) (he : M.1[pc]? = some (some (i, l, zc, b, u3))) (hi : ax_isinv i) (hz : zc < 1000) (hM' : ax_prog[zc]? = some (kc, nl, rc, tb)) (hb : b % 100 = 2) (hp : pc + 3 = p) (hfr : 1 ≤ fr) (hlo : nl + 19 ≤ lo) (hwt : (rest.map ax_wt).sum ≤ 8) (hsl : (ax_sl [x0, x1]).length ≤ nl) (hrc : ax_rcv (b / 100) [x0, x1] w = true)
    (hc : fin xs (fr - 1) (lo - (nl + 19)) zc 0 (ax_ent [x0, x1] nl) [] w (Ret P)) (k : ∀ v w1, P v w1 → fin xs fr lo z p ls (v.toList ++ rest) w1 Q) : fin xs fr lo z pc ls (x1 :: x0 :: rest) w Q := by
  subst hp; refine fi_call hM he hi rfl rfl hz hM' hfr hlo (as := [x0, x1]) rfl hb.symm hwt hsl hrc hc (fun v' w1 h => ?_) (fun i w1 h => by obtain ⟨v, h1, _⟩ := h; cases h1)
  obtain ⟨v, h1, h2⟩ := h; cases h1; exact k _ _ h2
theorem c_3 (hM : ax_prog[z]? = some M) (he : M.1[pc]? = some (some (i, l, zc, b, u3))) (hi : ax_isinv i) (hz : zc < 1000) (hM' : ax_prog[zc]? = some (kc, nl, rc, tb)) (hb : b % 100 = 3) (hp : pc + 3 = p) (hfr : 1 ≤ fr) (hlo : nl + 19 ≤ lo) (hwt : (rest.map ax_wt).sum ≤ 8) (hsl : (ax_sl [x0, x1, x2]).length ≤ nl) (hrc : ax_rcv (b / 100) [x0, x1, x2] w = true)
    (hc : fin xs (fr - 1) (lo - (nl + 19)) zc 0 (ax_ent [x0, x1, x2] nl) [] w (Same v w)) (k : fin xs fr lo z p ls (v :: rest) w Q) : fin xs fr lo z pc ls (x2 :: x1 :: x0 :: rest) w Q := by
  subst hp; refine fi_call hM he hi rfl rfl hz hM' hfr hlo (as := [x0, x1, x2]) rfl hb.symm hwt hsl hrc hc (fun v' w1 h => ?_) (fun i w1 h => by cases h.1)
  obtain ⟨h1, rfl⟩ := h; cases h1; exact k
theorem g_3 (hM : ax_prog[z]? = some M) (he : M.1[pc]? = some (some (i, l, zc, b, u3))) (hi : ax_isinv i) (hz : zc < 1000) (hM' : ax_prog[zc]? = some (kc, nl, rc, tb)) (hb : b % 100 = 3) (hp : pc + 3 = p) (hfr : 1 ≤ fr) (hlo : nl + 19 ≤ lo) (hwt : (rest.map ax_wt).sum ≤ 8) (hsl : (ax_sl [x0, x1, x2]).length ≤ nl) (hrc : ax_rcv (b / 100) [x0, x1, x2] w = true)
    (hc : fin xs (fr - 1) (lo - (nl + 19)) zc 0 (ax_ent [x0, x1, x2] nl) [] w (Ret P)) (k : ∀ v w1, P v w1 → fin xs fr lo z p ls (v.toList ++ rest) w1 Q) : fin xs fr lo z pc ls (x2 :: x1 :: x0 :: rest) w Q := by
  subst hp; refine fi_call hM he hi rfl rfl hz hM' hfr hlo (as := [x0, x1, x2]) rfl hb.symm hwt hsl hrc hc (fun v' w1 h => ?_) (fun i w1 h => by obtain ⟨v, h1, _⟩ := h; cases h1)
  obtain ⟨v, h1, h2⟩ := h; cases h1; exact k _ _ h2
theorem c_4 (hM : ax_prog[z]? = some M) (he : M.1[pc]? = some (some (i, l, zc, b, u3))) (hi : ax_isinv i) (hz : zc < 1000) (hM' : ax_prog[zc]? = some (kc, nl, rc, tb)) (hb : b % 100 = 4) (hp : pc + 3 = p) (hfr : 1 ≤ fr) (hlo : nl + 19 ≤ lo) (hwt : (rest.map ax_wt).sum ≤ 8) (hsl : (ax_sl [x0, x1, x2, x3]).length ≤ nl) (hrc : ax_rcv (b / 100) [x0, x1, x2, x3] w = true)
    (hc : fin xs (fr - 1) (lo - (nl + 19)) zc 0 (ax_ent [x0, x1, x2, x3] nl) [] w (Same v w)) (k : fin xs fr lo z p ls (v :: rest) w Q) : fin xs fr lo z pc ls (x3 :: x2 :: x1 :: x0 :: rest) w Q := by
  subst hp; refine fi_call hM he hi rfl rfl hz hM' hfr hlo (as := [x0, x1, x2, x3]) rfl hb.symm hwt hsl hrc hc (fun v' w1 h => ?_) (fun i w1 h => by cases h.1)
  obtain ⟨h1, rfl⟩ := h; cases h1; exact k
theorem g_4 (hM : ax_prog[z]? = some M) (he : M.1[pc]? = some (some (i, l, zc, b, u3))) (hi : ax_isinv i) (hz : zc < 1000) (hM' : ax_prog[zc]? = some (kc, nl, rc, tb)) (hb : b % 100 = 4) (hp : pc + 3 = p) (hfr : 1 ≤ fr) (hlo : nl + 19 ≤ lo) (hwt : (rest.map ax_wt).sum ≤ 8) (hsl : (ax_sl [x0, x1, x2, x3]).length ≤ nl) (hrc : ax_rcv (b / 100) [x0, x1, x2, x3] w = true)
    (hc : fin xs (fr - 1) (lo - (nl + 19)) zc 0 (ax_ent [x0, x1, x2, x3] nl) [] w (Ret P)) (k : ∀ v w1, P v w1 → fin xs fr lo z p ls (v.toList ++ rest) w1 Q) : fin xs fr lo z pc ls (x3 :: x2 :: x1 :: x0 :: rest) w Q := by
  subst hp; refine fi_call hM he hi rfl rfl hz hM' hfr hlo (as := [x0, x1, x2, x3]) rfl hb.symm hwt hsl hrc hc (fun v' w1 h => ?_) (fun i w1 h => by obtain ⟨v, h1, _⟩ := h; cases h1)
  obtain ⟨v, h1, h2⟩ := h; cases h1; exact k _ _ h2
theorem c_5 (hM : ax_prog[z]? = some M) (he : M.1[pc]? = some (some (i, l, zc, b, u3))) (hi : ax_isinv i) (hz : zc < 1000) (hM' : ax_prog[zc]? = some (kc, nl, rc, tb)) (hb : b % 100 = 5) (hp : pc + 3 = p) (hfr : 1 ≤ fr) (hlo : nl + 19 ≤ lo) (hwt : (rest.map ax_wt).sum ≤ 8) (hsl : (ax_sl [x0, x1, x2, x3, x4]).length ≤ nl) (hrc : ax_rcv (b / 100) [x0, x1, x2, x3, x4] w = true)
    (hc : fin xs (fr - 1) (lo - (nl + 19)) zc 0 (ax_ent [x0, x1, x2, x3, x4] nl) [] w (Same v w)) (k : fin xs fr lo z p ls (v :: rest) w Q) : fin xs fr lo z pc ls (x4 :: x3 :: x2 :: x1 :: x0 :: rest) w Q := by
  subst hp; refine fi_call hM he hi rfl rfl hz hM' hfr hlo (as := [x0, x1, x2, x3, x4]) rfl hb.symm hwt hsl hrc hc (fun v' w1 h => ?_) (fun i w1 h => by cases h.1)
  obtain ⟨h1, rfl⟩ := h; cases h1; exact k
theorem g_5 (hM : ax_prog[z]? = some M) (he : M.1[pc]? = some (some (i, l, zc, b, u3))) (hi : ax_isinv i) (hz : zc < 1000) (hM' : ax_prog[zc]? = some (kc, nl, rc, tb)) (hb : b % 100 = 5) (hp : pc + 3 = p) (hfr : 1 ≤ fr) (hlo : nl + 19 ≤ lo) (hwt : (rest.map ax_wt).sum ≤ 8) (hsl : (ax_sl [x0, x1, x2, x3, x4]).length ≤ nl) (hrc : ax_rcv (b / 100) [x0, x1, x2, x3, x4] w = true)
    (hc : fin xs (fr - 1) (lo - (nl + 19)) zc 0 (ax_ent [x0, x1, x2, x3, x4] nl) [] w (Ret P)) (k : ∀ v w1, P v w1 → fin xs fr lo z p ls (v.toList ++ rest) w1 Q) : fin xs fr lo z pc ls (x4 :: x3 :: x2 :: x1 :: x0 :: rest) w Q := by
  subst hp; refine fi_call hM he hi rfl rfl hz hM' hfr hlo (as := [x0, x1, x2, x3, x4]) rfl hb.symm hwt hsl hrc hc (fun v' w1 h => ?_) (fun i w1 h => by obtain ⟨v, h1, _⟩ := h; cases h1)
  obtain ⟨v, h1, h2⟩ := h; cases h1; exact k _ _ h2
theorem c_6 (hM : ax_prog[z]? = some M) (he : M.1[pc]? = some (some (i, l, zc, b, u3))) (hi : ax_isinv i) (hz : zc < 1000) (hM' : ax_prog[zc]? = some (kc, nl, rc, tb)) (hb : b % 100 = 6) (hp : pc + 3 = p) (hfr : 1 ≤ fr) (hlo : nl + 19 ≤ lo) (hwt : (rest.map ax_wt).sum ≤ 8) (hsl : (ax_sl [x0, x1, x2, x3, x4, x5]).length ≤ nl) (hrc : ax_rcv (b / 100) [x0, x1, x2, x3, x4, x5] w = true)
    (hc : fin xs (fr - 1) (lo - (nl + 19)) zc 0 (ax_ent [x0, x1, x2, x3, x4, x5] nl) [] w (Same v w)) (k : fin xs fr lo z p ls (v :: rest) w Q) : fin xs fr lo z pc ls (x5 :: x4 :: x3 :: x2 :: x1 :: x0 :: rest) w Q := by
  subst hp; refine fi_call hM he hi rfl rfl hz hM' hfr hlo (as := [x0, x1, x2, x3, x4, x5]) rfl hb.symm hwt hsl hrc hc (fun v' w1 h => ?_) (fun i w1 h => by cases h.1)
  obtain ⟨h1, rfl⟩ := h; cases h1; exact k
theorem g_6 (hM : ax_prog[z]? = some M) (he : M.1[pc]? = some (some (i, l, zc, b, u3))) (hi : ax_isinv i) (hz : zc < 1000) (hM' : ax_prog[zc]? = some (kc, nl, rc, tb)) (hb : b % 100 = 6) (hp : pc + 3 = p) (hfr : 1 ≤ fr) (hlo : nl + 19 ≤ lo) (hwt : (rest.map ax_wt).sum ≤ 8) (hsl : (ax_sl [x0, x1, x2, x3, x4, x5]).length ≤ nl) (hrc : ax_rcv (b / 100) [x0, x1, x2, x3, x4, x5] w = true)
    (hc : fin xs (fr - 1) (lo - (nl + 19)) zc 0 (ax_ent [x0, x1, x2, x3, x4, x5] nl) [] w (Ret P)) (k : ∀ v w1, P v w1 → fin xs fr lo z p ls (v.toList ++ rest) w1 Q) : fin xs fr lo z pc ls (x5 :: x4 :: x3 :: x2 :: x1 :: x0 :: rest) w Q := by
  subst hp; refine fi_call hM he hi rfl rfl hz hM' hfr hlo (as := [x0, x1, x2, x3, x4, x5]) rfl hb.symm hwt hsl hrc hc (fun v' w1 h => ?_) (fun i w1 h => by obtain ⟨v, h1, _⟩ := h; cases h1)
  obtain ⟨v, h1, h2⟩ := h; cases h1; exact k _ _ h2
end CALLN
theorem jL_and24 (a : Int) : jL a &&& jL 16777215 = jL (a % 16777216) := by
  apply Int64.toBitVec.inj
  apply BitVec.eq_of_toNat_eq
  have h : (16777215 : Nat) = 2 ^ 24 - 1 := by decide
  simp only [jL, Int64.toBitVec_and, Int64.toBitVec_ofInt, BitVec.toNat_and, BitVec.toNat_ofInt]
  rw [show ((16777215 : Int) % ((2 ^ 64 : Nat) : Int)).toNat = 2 ^ 24 - 1 from by decide, Nat.and_two_pow_sub_one_eq_mod]
  omega
theorem jL_ushr24 {a : Int} (a0 : 0 ≤ a) (a1 : a < 9223372036854775808) : ((jL a).toUInt64 >>> ((jI 24).toInt64.toUInt64 &&& Int64.toUInt64 63)).toInt64 = jL (a / 16777216) := by
  rw [show (jI 24).toInt64.toUInt64 &&& Int64.toUInt64 63 = 24 from by decide]
  apply Int64.toBitVec.inj
  apply BitVec.eq_of_toNat_eq
  show ((jL a).toUInt64 >>> 24).toNat = _
  rw [UInt64.toNat_shiftRight]
  simp only [jL, Int64.toBitVec_ofInt, BitVec.toNat_ofInt]
  show (BitVec.ofInt 64 a).toNat >>> (24 % 64) = _
  rw [BitVec.toNat_ofInt, Nat.shiftRight_eq_div_pow, show (2 : Nat) ^ (24 % 64) = 16777216 from by decide]
  omega
theorem jL_shr24 {a : Int} (a0 : -9223372036854775808 ≤ a) (a1 : a < 9223372036854775808) : jL a >>> ((jI 24).toInt64 &&& 63) = jL (a / 16777216) := by
  rw [show (jI 24).toInt64 &&& 63 = 24 from by decide]
  apply Int64.toInt_inj.mp
  rw [jL_toInt (by omega) (by omega)]
  show ((jL a).toBitVec.sshiftRight' ((24 : Int64).toBitVec.smod 64)).toInt = _
  rw [show (24 : Int64).toBitVec.smod 64 = 24#64 from by decide]
  rw [BitVec.sshiftRight_eq', show (24#64).toNat = 24 from rfl, BitVec.toInt_sshiftRight]
  rw [show (jL a).toBitVec.toInt = a from jL_toInt a0 a1, Int.shiftRight_eq_div_pow]
  rfl
section BITS
variable {xs : List Int32} {fr lo z pc p l u1 u2 u3 : Nat} {ls : List (Option Value)} {st : List Value} {w : ax_W} {Q : Outcome → ax_W → Prop} {M : ax_M} {a b : Int}
theorem b_land (hM : ax_prog[z]? = some M) (he : M.1[pc]? = some (some (.land, l, u1, u2, u3))) (hp : pc + l = p) (kk : fin xs fr lo z p ls (.long (jL (a % 16777216)) :: st) w Q) : fin xs fr lo z pc ls (.long (jL 16777215) :: .long (jL a) :: st) w Q := by
  subst hp; rw [← jL_and24] at kk; exact fi_step hM he rfl kk
theorem b_lushr (hM : ax_prog[z]? = some M) (he : M.1[pc]? = some (some (.lushr, l, u1, u2, u3))) (hp : pc + l = p) (a0 : 0 ≤ a) (a1 : a < 9223372036854775808) (kk : fin xs fr lo z p ls (.long (jL (a / 16777216)) :: st) w Q) : fin xs fr lo z pc ls (.int (jI 24) :: .long (jL a) :: st) w Q := by
  subst hp; rw [← jL_ushr24 a0 a1] at kk; exact fi_step hM he rfl kk
theorem b_lshr (hM : ax_prog[z]? = some M) (he : M.1[pc]? = some (some (.lshr, l, u1, u2, u3))) (hp : pc + l = p) (a0 : -9223372036854775808 ≤ a) (a1 : a < 9223372036854775808) (kk : fin xs fr lo z p ls (.long (jL (a / 16777216)) :: st) w Q) : fin xs fr lo z pc ls (.int (jI 24) :: .long (jL a) :: st) w Q := by
  subst hp; rw [← jL_shr24 a0 a1] at kk; exact fi_step hM he rfl kk
end BITS
