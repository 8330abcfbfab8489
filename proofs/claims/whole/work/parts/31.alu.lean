/-! the machine's numbers as whole numbers: jI, jL; a rule an instruction, with the next pc said -/
abbrev jI (e : Int) : Int32 := Int32.ofInt e
abbrev jL (e : Int) : Int64 := Int64.ofInt e
theorem jI_toInt {a : Int} (h0 : -2147483648 ≤ a) (h1 : a < 2147483648) : (jI a).toInt = a := Int32.toInt_ofInt_of_le (by omega) (by omega)
theorem jL_toInt {a : Int} (h0 : -9223372036854775808 ≤ a) (h1 : a < 9223372036854775808) : (jL a).toInt = a := Int64.toInt_ofInt_of_le (by omega) (by omega)
theorem jI_inj {a b : Int} (a0 : -2147483648 ≤ a) (a1 : a < 2147483648) (b0 : -2147483648 ≤ b) (b1 : b < 2147483648) : jI a = jI b ↔ a = b := by
  constructor
  · intro h
    have := congrArg Int32.toInt h
    rwa [jI_toInt a0 a1, jI_toInt b0 b1] at this
  · intro h; rw [h]
theorem jI_lt {a b : Int} (a0 : -2147483648 ≤ a) (a1 : a < 2147483648) (b0 : -2147483648 ≤ b) (b1 : b < 2147483648) : jI a < jI b ↔ a < b := by
  rw [Int32.lt_iff_toInt_lt, jI_toInt a0 a1, jI_toInt b0 b1]
theorem jI_le {a b : Int} (a0 : -2147483648 ≤ a) (a1 : a < 2147483648) (b0 : -2147483648 ≤ b) (b1 : b < 2147483648) : jI a ≤ jI b ↔ a ≤ b := by
  rw [Int32.le_iff_toInt_le, jI_toInt a0 a1, jI_toInt b0 b1]
theorem jL_inj {a b : Int} (a0 : -9223372036854775808 ≤ a) (a1 : a < 9223372036854775808) (b0 : -9223372036854775808 ≤ b) (b1 : b < 9223372036854775808) : jL a = jL b ↔ a = b := by
  constructor
  · intro h
    have := congrArg Int64.toInt h
    rwa [jL_toInt a0 a1, jL_toInt b0 b1] at this
  · intro h; rw [h]
theorem jL_lt {a b : Int} (a0 : -9223372036854775808 ≤ a) (a1 : a < 9223372036854775808) (b0 : -9223372036854775808 ≤ b) (b1 : b < 9223372036854775808) : jL a < jL b ↔ a < b := by
  rw [Int64.lt_iff_toInt_lt, jL_toInt a0 a1, jL_toInt b0 b1]
theorem jI_zero : jI 0 = 0 := rfl
theorem jL_zero : jL 0 = 0 := rfl
theorem jI_nat {a : Int} (h0 : 0 ≤ a) (h1 : a < 2147483648) : (jI a).toNatClampNeg = a.toNat := Int32.toNatClampNeg_ofInt_of_le (by omega) (by omega)
theorem jI_nn {a : Int} (h0 : 0 ≤ a) (h1 : a < 2147483648) : ¬ jI a < 0 := by
  rw [← jI_zero, jI_lt (by omega) (by omega) (by omega) (by omega)]; omega
theorem jI_div {a b : Int} (a0 : 0 ≤ a) (a1 : a < 2147483648) (b0 : 0 < b) (b1 : b < 2147483648) : jI a / jI b = jI (a / b) := by
  have h := Int32.ofInt_tdiv (a := a) (b := b) (by show (-2147483648 : Int) ≤ a; omega) (by show a ≤ (2147483647 : Int); omega) (by show (-2147483648 : Int) ≤ b; omega) (by show b ≤ (2147483647 : Int); omega)
  rw [Int.tdiv_eq_ediv_of_nonneg a0] at h
  exact h.symm
theorem jI_rem {a b : Int} (a0 : 0 ≤ a) (a1 : a < 2147483648) (b0 : 0 < b) (b1 : b < 2147483648) : jI a - jI a / jI b * jI b = jI (a % b) := by
  rw [jI_div a0 a1 b0 b1, ← Int32.ofInt_mul, ← Int32.ofInt_sub, Int.emod_def, Int.mul_comm]
theorem jL_tdiv {a b : Int} (a0 : -9223372036854775808 ≤ a) (a1 : a < 9223372036854775808) (b0 : 0 < b) (b1 : b < 9223372036854775808) : jL a / jL b = jL (a.tdiv b) :=
  (Int64.ofInt_tdiv (a := a) (b := b) (by show (-9223372036854775808 : Int) ≤ a; omega) (by show a ≤ (9223372036854775807 : Int); omega) (by show (-9223372036854775808 : Int) ≤ b; omega) (by show b ≤ (9223372036854775807 : Int); omega)).symm
theorem jL_trem {a b : Int} (a0 : -9223372036854775808 ≤ a) (a1 : a < 9223372036854775808) (b0 : 0 < b) (b1 : b < 9223372036854775808) : jL a - jL a / jL b * jL b = jL (a.tmod b) := by
  rw [jL_tdiv a0 a1 b0 b1, ← Int64.ofInt_mul, ← Int64.ofInt_sub, Int.tmod_def, Int.mul_comm]
theorem jL_div {a b : Int} (a0 : 0 ≤ a) (a1 : a < 9223372036854775808) (b0 : 0 < b) (b1 : b < 9223372036854775808) : jL a / jL b = jL (a / b) := by
  rw [jL_tdiv (by omega) a1 b0 b1, Int.tdiv_eq_ediv_of_nonneg a0]
theorem jL_rem {a b : Int} (a0 : 0 ≤ a) (a1 : a < 9223372036854775808) (b0 : 0 < b) (b1 : b < 9223372036854775808) : jL a - jL a / jL b * jL b = jL (a % b) := by
  rw [jL_div a0 a1 b0 b1, ← Int64.ofInt_mul, ← Int64.ofInt_sub, Int.emod_def, Int.mul_comm]
theorem jI_ne0 {b : Int} (b0 : 0 < b) (b1 : b < 2147483648) : ¬ jI b = 0 := by
  rw [← jI_zero, jI_inj (by omega) (by omega) (by omega) (by omega)]; omega
theorem jL_ne0 {b : Int} (b0 : 0 < b) (b1 : b < 9223372036854775808) : ¬ jL b = 0 := by
  rw [← jL_zero, jL_inj (by omega) (by omega) (by omega) (by omega)]; omega
theorem jI_i2l {a : Int} (a0 : -2147483648 ≤ a) (a1 : a < 2147483648) : (jI a).toInt64 = jL a :=
  Int32.toInt64_ofInt (by show (-2147483648 : Int) ≤ a; omega) (by show a ≤ (2147483647 : Int); omega)
section ALU
variable {xs : List Int32} {fr lo z pc p l u1 u2 u3 : Nat} {ls : List (Option Value)} {st : List Value} {w : ax_W} {Q : Outcome → ax_W → Prop} {M : ax_M} {a b : Int}
theorem s_iadd (hM : ax_prog[z]? = some M) (he : M.1[pc]? = some (some (.iadd, l, u1, u2, u3))) (hp : pc + l = p) (kk : fin xs fr lo z p ls (.int (jI (a + b)) :: st) w Q) : fin xs fr lo z pc ls (.int (jI b) :: .int (jI a) :: st) w Q := by
  subst hp; rw [show jI (a + b) = jI a + jI b from Int32.ofInt_add a b] at kk; exact fi_step hM he rfl kk
theorem s_isub (hM : ax_prog[z]? = some M) (he : M.1[pc]? = some (some (.isub, l, u1, u2, u3))) (hp : pc + l = p) (kk : fin xs fr lo z p ls (.int (jI (a - b)) :: st) w Q) : fin xs fr lo z pc ls (.int (jI b) :: .int (jI a) :: st) w Q := by
  subst hp; rw [show jI (a - b) = jI a - jI b from Int32.ofInt_sub a b] at kk; exact fi_step hM he rfl kk
theorem s_imul (hM : ax_prog[z]? = some M) (he : M.1[pc]? = some (some (.imul, l, u1, u2, u3))) (hp : pc + l = p) (kk : fin xs fr lo z p ls (.int (jI (a * b)) :: st) w Q) : fin xs fr lo z pc ls (.int (jI b) :: .int (jI a) :: st) w Q := by
  subst hp; rw [show jI (a * b) = jI a * jI b from Int32.ofInt_mul a b] at kk; exact fi_step hM he rfl kk
theorem s_ineg (hM : ax_prog[z]? = some M) (he : M.1[pc]? = some (some (.ineg, l, u1, u2, u3))) (hp : pc + l = p) (kk : fin xs fr lo z p ls (.int (jI (-a)) :: st) w Q) : fin xs fr lo z pc ls (.int (jI a) :: st) w Q := by
  subst hp; rw [show jI (-a) = -jI a from Int32.ofInt_neg a] at kk; exact fi_step hM he rfl kk
theorem s_ladd (hM : ax_prog[z]? = some M) (he : M.1[pc]? = some (some (.ladd, l, u1, u2, u3))) (hp : pc + l = p) (kk : fin xs fr lo z p ls (.long (jL (a + b)) :: st) w Q) : fin xs fr lo z pc ls (.long (jL b) :: .long (jL a) :: st) w Q := by
  subst hp; rw [show jL (a + b) = jL a + jL b from Int64.ofInt_add a b] at kk; exact fi_step hM he rfl kk
theorem s_lsub (hM : ax_prog[z]? = some M) (he : M.1[pc]? = some (some (.lsub, l, u1, u2, u3))) (hp : pc + l = p) (kk : fin xs fr lo z p ls (.long (jL (a - b)) :: st) w Q) : fin xs fr lo z pc ls (.long (jL b) :: .long (jL a) :: st) w Q := by
  subst hp; rw [show jL (a - b) = jL a - jL b from Int64.ofInt_sub a b] at kk; exact fi_step hM he rfl kk
theorem s_lmul (hM : ax_prog[z]? = some M) (he : M.1[pc]? = some (some (.lmul, l, u1, u2, u3))) (hp : pc + l = p) (kk : fin xs fr lo z p ls (.long (jL (a * b)) :: st) w Q) : fin xs fr lo z pc ls (.long (jL b) :: .long (jL a) :: st) w Q := by
  subst hp; rw [show jL (a * b) = jL a * jL b from Int64.ofInt_mul a b] at kk; exact fi_step hM he rfl kk
theorem s_lneg (hM : ax_prog[z]? = some M) (he : M.1[pc]? = some (some (.lneg, l, u1, u2, u3))) (hp : pc + l = p) (kk : fin xs fr lo z p ls (.long (jL (-a)) :: st) w Q) : fin xs fr lo z pc ls (.long (jL a) :: st) w Q := by
  subst hp; rw [show jL (-a) = -jL a from Int64.ofInt_neg a] at kk; exact fi_step hM he rfl kk
/-- quotient and rest of numbers not below 0 -/
theorem s_idiv (hM : ax_prog[z]? = some M) (he : M.1[pc]? = some (some (.idiv, l, u1, u2, u3))) (hp : pc + l = p) (a0 : 0 ≤ a) (a1 : a < 2147483648) (b0 : 0 < b) (b1 : b < 2147483648) (kk : fin xs fr lo z p ls (.int (jI (a / b)) :: st) w Q) : fin xs fr lo z pc ls (.int (jI b) :: .int (jI a) :: st) w Q := by
  subst hp; refine fi_step hM he (w1 := w) ?_ kk
  simp [ax_step, ax_st, ax_iz, jI_ne0 b0 b1, jI_div a0 a1 b0 b1]
theorem s_irem (hM : ax_prog[z]? = some M) (he : M.1[pc]? = some (some (.irem, l, u1, u2, u3))) (hp : pc + l = p) (a0 : 0 ≤ a) (a1 : a < 2147483648) (b0 : 0 < b) (b1 : b < 2147483648) (kk : fin xs fr lo z p ls (.int (jI (a % b)) :: st) w Q) : fin xs fr lo z pc ls (.int (jI b) :: .int (jI a) :: st) w Q := by
  subst hp; refine fi_step hM he (w1 := w) ?_ kk
  simp [ax_step, ax_st, ax_iz, jI_ne0 b0 b1, jI_rem a0 a1 b0 b1]
theorem s_ldiv (hM : ax_prog[z]? = some M) (he : M.1[pc]? = some (some (.ldiv, l, u1, u2, u3))) (hp : pc + l = p) (a0 : 0 ≤ a) (a1 : a < 9223372036854775808) (b0 : 0 < b) (b1 : b < 9223372036854775808) (kk : fin xs fr lo z p ls (.long (jL (a / b)) :: st) w Q) : fin xs fr lo z pc ls (.long (jL b) :: .long (jL a) :: st) w Q := by
  subst hp; refine fi_step hM he (w1 := w) ?_ kk
  simp [ax_step, ax_st, ax_lz, jL_ne0 b0 b1, jL_div a0 a1 b0 b1]
theorem s_lrem (hM : ax_prog[z]? = some M) (he : M.1[pc]? = some (some (.lrem, l, u1, u2, u3))) (hp : pc + l = p) (a0 : 0 ≤ a) (a1 : a < 9223372036854775808) (b0 : 0 < b) (b1 : b < 9223372036854775808) (kk : fin xs fr lo z p ls (.long (jL (a % b)) :: st) w Q) : fin xs fr lo z pc ls (.long (jL b) :: .long (jL a) :: st) w Q := by
  subst hp; refine fi_step hM he (w1 := w) ?_ kk
  simp [ax_step, ax_st, ax_lz, jL_ne0 b0 b1, jL_rem a0 a1 b0 b1]
/-- the same, rounded towards 0 -/
theorem s_ltdiv (hM : ax_prog[z]? = some M) (he : M.1[pc]? = some (some (.ldiv, l, u1, u2, u3))) (hp : pc + l = p) (a0 : -9223372036854775808 ≤ a) (a1 : a < 9223372036854775808) (b0 : 0 < b) (b1 : b < 9223372036854775808) (kk : fin xs fr lo z p ls (.long (jL (a.tdiv b)) :: st) w Q) : fin xs fr lo z pc ls (.long (jL b) :: .long (jL a) :: st) w Q := by
  subst hp; refine fi_step hM he (w1 := w) ?_ kk
  simp [ax_step, ax_st, ax_lz, jL_ne0 b0 b1, jL_tdiv a0 a1 b0 b1]
theorem s_ltrem (hM : ax_prog[z]? = some M) (he : M.1[pc]? = some (some (.lrem, l, u1, u2, u3))) (hp : pc + l = p) (a0 : -9223372036854775808 ≤ a) (a1 : a < 9223372036854775808) (b0 : 0 < b) (b1 : b < 9223372036854775808) (kk : fin xs fr lo z p ls (.long (jL (a.tmod b)) :: st) w Q) : fin xs fr lo z pc ls (.long (jL b) :: .long (jL a) :: st) w Q := by
  subst hp; refine fi_step hM he (w1 := w) ?_ kk
  simp [ax_step, ax_st, ax_lz, jL_ne0 b0 b1, jL_trem a0 a1 b0 b1]
theorem s_i2l (hM : ax_prog[z]? = some M) (he : M.1[pc]? = some (some (.i2l, l, u1, u2, u3))) (hp : pc + l = p) (a0 : -2147483648 ≤ a) (a1 : a < 2147483648) (kk : fin xs fr lo z p ls (.long (jL a) :: st) w Q) : fin xs fr lo z pc ls (.int (jI a) :: st) w Q := by
  subst hp; rw [← jI_i2l a0 a1] at kk; exact fi_step hM he rfl kk
theorem s_l2i (hM : ax_prog[z]? = some M) (he : M.1[pc]? = some (some (.l2i, l, u1, u2, u3))) (hp : pc + l = p) (kk : fin xs fr lo z p ls (.int (jI a) :: st) w Q) : fin xs fr lo z pc ls (.long (jL a) :: st) w Q := by
  subst hp; rw [show jI a = (jL a).toInt32 from Int64.toInt32_ofInt.symm] at kk; exact fi_step hM he rfl kk
theorem s_i2c (hM : ax_prog[z]? = some M) (he : M.1[pc]? = some (some (.i2c, l, u1, u2, u3))) (hp : pc + l = p) (a0 : 0 ≤ a) (a1 : a < 65536) (kk : fin xs fr lo z p ls (.int (jI a) :: st) w Q) : fin xs fr lo z pc ls (.int (jI a) :: st) w Q := by
  subst hp; refine fi_step hM he (w1 := w) ?_ kk
  have : ((jI a).toUInt32 % 65536).toInt32 = jI a := by
    obtain ⟨n, rfl⟩ := Int.eq_ofNat_of_zero_le a0
    have hn : n < 65536 := by omega
    apply Int32.toBitVec.inj
    apply BitVec.eq_of_toNat_eq
    simp [jI, Int32.ofInt, Int32.toBitVec]
    omega
  simp only [ax_step, ax_st, ax_i1, this]
theorem s_bipush {v : Int} (hM : ax_prog[z]? = some M) (he : M.1[pc]? = some (some (.bipush v, l, u1, u2, u3))) (hp : pc + l = p) (hv : (Int8.ofInt v).toInt32 = jI v) (kk : fin xs fr lo z p ls (.int (jI v) :: st) w Q) : fin xs fr lo z pc ls st w Q := by
  subst hp; rw [← hv] at kk; exact fi_step hM he rfl kk
theorem s_sipush {v : Int} (hM : ax_prog[z]? = some M) (he : M.1[pc]? = some (some (.sipush v, l, u1, u2, u3))) (hp : pc + l = p) (hv : (Int16.ofInt v).toInt32 = jI v) (kk : fin xs fr lo z p ls (.int (jI v) :: st) w Q) : fin xs fr lo z pc ls st w Q := by
  subst hp; rw [← hv] at kk; exact fi_step hM he rfl kk
theorem s_lconst {n : Fin 2} (hM : ax_prog[z]? = some M) (he : M.1[pc]? = some (some (.lconst n, l, u1, u2, u3))) (hp : pc + l = p) {v : Int} (hv : Int64.ofNat (n : Nat) = jL v) (kk : fin xs fr lo z p ls (.long (jL v) :: st) w Q) : fin xs fr lo z pc ls st w Q := by
  subst hp; rw [← hv] at kk; exact fi_step hM he rfl kk
theorem s_ldc {idx k : Nat} (v : Int) (hM : ax_prog[z]? = some M) (he : M.1[pc]? = some (some (.ldc idx, l, k, 0, u3))) (hp : pc + l = p) (hv : ax_kI[k]? = some (jI v)) (kk : fin xs fr lo z p ls (.int (jI v) :: st) w Q) : fin xs fr lo z pc ls st w Q := by
  subst hp; exact fi_hp hM he rfl rfl rfl (by simp [ax_hp, hv]) kk
theorem s_ldcw {idx k : Nat} (v : Int) (hM : ax_prog[z]? = some M) (he : M.1[pc]? = some (some (.ldc_w idx, l, k, 0, u3))) (hp : pc + l = p) (hv : ax_kI[k]? = some (jI v)) (kk : fin xs fr lo z p ls (.int (jI v) :: st) w Q) : fin xs fr lo z pc ls st w Q := by
  subst hp; exact fi_hp hM he rfl rfl rfl (by simp [ax_hp, hv]) kk
theorem s_ldc2 {idx k : Nat} (v : Int) (hM : ax_prog[z]? = some M) (he : M.1[pc]? = some (some (.ldc2_w idx, l, k, u2, u3))) (hp : pc + l = p) (hv : ax_kJ[k]? = some (jL v)) (kk : fin xs fr lo z p ls (.long (jL v) :: st) w Q) : fin xs fr lo z pc ls st w Q := by
  subst hp; exact fi_hp hM he rfl rfl rfl (by simp [ax_hp, hv]) kk
theorem s_iinc {n : Nat} {k : Int} (hM : ax_prog[z]? = some M) (he : M.1[pc]? = some (some (.iinc n k, l, u1, u2, u3))) (hp : pc + l = p) (hl : ls[n]? = some (some (.int (jI a)))) (kk : fin xs fr lo z p (ax_set1 ls n (.int (jI (a + k)))) st w Q) : fin xs fr lo z pc ls st w Q := by
  subst hp; rw [show jI (a + k) = jI a + jI k from Int32.ofInt_add a k] at kk
  refine fi_step hM he (w1 := w) ?_ kk
  simp [ax_step, ax_st, ax_sto, ax_inc, hl]
end ALU
