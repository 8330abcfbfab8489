/-! bits of ints -/
theorem jI_msk : ∀ k : Fin 31, jI ((k : Nat) : Int) &&& 31 = jI ((k : Nat) : Int) := by decide
theorem jI_smod : ∀ k : Fin 31, (jI ((k : Nat) : Int)).toBitVec.smod 32 = BitVec.ofNat 32 k := by decide
theorem jI_shl1 : ∀ k : Fin 31, jI 1 <<< jI ((k : Nat) : Int) = jI (2 ^ (k : Nat)) := by decide
theorem jI_shr {a k : Int} (a0 : 0 ≤ a) (a1 : a < 2147483648) (k0 : 0 ≤ k) (k1 : k < 31) : jI a >>> (jI k &&& 31) = jI (a / 2 ^ k.toNat) := by
  obtain ⟨n, rfl⟩ := Int.eq_ofNat_of_zero_le k0
  have hn : n < 31 := by omega
  have e1 := jI_msk ⟨n, hn⟩
  simp only at e1
  rw [e1]
  apply Int32.toInt_inj.mp
  have hp : (0 : Int) < 2 ^ n := Int.pow_pos (by decide)
  have h1 : a / 2 ^ n ≤ a := Int.ediv_le_self _ a0
  have h0 : 0 ≤ a / 2 ^ n := Int.ediv_nonneg a0 (Int.le_of_lt hp)
  rw [Int.toNat_natCast, jI_toInt (by omega) (by omega)]
  show ((jI a).toBitVec.sshiftRight' ((jI (n : Int)).toBitVec.smod 32)).toInt = _
  have e2 := jI_smod ⟨n, hn⟩
  simp only at e2
  rw [e2, BitVec.sshiftRight_eq', BitVec.toNat_ofNat, Nat.mod_eq_of_lt (by omega), BitVec.toInt_sshiftRight]
  rw [show (jI a).toBitVec.toInt = a from jI_toInt (by omega) a1, Int.shiftRight_eq_div_pow]
  simp
theorem jI_and1 (a : Int) : jI a &&& jI 1 = jI (a % 2) := by
  apply Int32.toBitVec.inj
  apply BitVec.eq_of_toNat_eq
  simp only [jI, Int32.toBitVec_and, Int32.toBitVec_ofInt, BitVec.toNat_and, BitVec.toNat_ofInt]
  rw [show ((1 : Int) % ((2 ^ 32 : Nat) : Int)).toNat = 2 ^ 1 - 1 from by decide, Nat.and_two_pow_sub_one_eq_mod]
  omega
section BITS2
variable {xs : List Int32} {fr lo z pc p l u1 u2 u3 : Nat} {ls : List (Option Value)} {st : List Value} {w : ax_W} {Q : Outcome → ax_W → Prop} {M : ax_M} {a k : Int}
theorem b_ishr (hM : ax_prog[z]? = some M) (he : M.1[pc]? = some (some (.ishr, l, u1, u2, u3))) (hp : pc + l = p) (a0 : 0 ≤ a) (a1 : a < 2147483648) (k0 : 0 ≤ k) (k1 : k < 31) (kk : fin xs fr lo z p ls (.int (jI (a / 2 ^ k.toNat)) :: st) w Q) : fin xs fr lo z pc ls (.int (jI k) :: .int (jI a) :: st) w Q := by
  subst hp; rw [← jI_shr a0 a1 k0 k1] at kk; exact fi_step hM he rfl kk
theorem b_iand (hM : ax_prog[z]? = some M) (he : M.1[pc]? = some (some (.iand, l, u1, u2, u3))) (hp : pc + l = p) (kk : fin xs fr lo z p ls (.int (jI (a % 2)) :: st) w Q) : fin xs fr lo z pc ls (.int (jI 1) :: .int (jI a) :: st) w Q := by
  subst hp; rw [← jI_and1] at kk; exact fi_step hM he rfl kk
theorem b_ishl (hM : ax_prog[z]? = some M) (he : M.1[pc]? = some (some (.ishl, l, u1, u2, u3))) (hp : pc + l = p) (k0 : 0 ≤ k) (k1 : k < 31) (kk : fin xs fr lo z p ls (.int (jI (2 ^ k.toNat)) :: st) w Q) : fin xs fr lo z pc ls (.int (jI k) :: .int (jI 1) :: st) w Q := by
  subst hp
  obtain ⟨n, rfl⟩ := Int.eq_ofNat_of_zero_le k0
  have hn : n < 31 := by omega
  have e1 := jI_msk ⟨n, hn⟩
  have e2 := jI_shl1 ⟨n, hn⟩
  simp only at e1 e2
  rw [Int.toNat_natCast, ← e2, ← e1] at kk
  exact fi_step hM he rfl kk
end BITS2
/-- the numbers below n that are in a set of bits, the greatest first -/
def els : Nat → Int → List Int
  | 0, _ => []
  | n + 1, x => if x / 2 ^ n % 2 = 1 then (n : Int) :: els n x else els n x
/-- the first n values of a function, the last first -/
def plist (f : Int → Int) : Nat → List Int
  | 0 => []
  | n + 1 => f n :: plist f n
theorem els_len (x : Int) : ∀ n : Nat, (els n x).length ≤ n
  | 0 => Nat.le_refl 0
  | n + 1 => by
    have := els_len x n
    unfold els; split
    · rw [List.length_cons]; omega
    · omega
theorem plist_congr {f g : Int → Int} : ∀ {n : Nat}, (∀ k : Nat, k < n → f k = g k) → plist f n = plist g n
  | 0, _ => rfl
  | n + 1, h => by rw [plist, plist, h n (by omega), plist_congr (fun k hk => h k (by omega))]
/-! THE REFERENCE: equality, characters, what is looked at -/
section LOOK
variable {xs : List Int32} {fr lo : Nat} {w0 : ax_W} {Q : Outcome → ax_W → Prop}
theorem same_loop {a b : Int} {s : mo_S} {w : ax_W} (hfr : 1 ≤ fr) (hlo : 30 ≤ lo) (hw : RW w0 w s) (hM : MI s) (a0 : 0 ≤ a) (a1 : a < 6) (b0 : 0 ≤ b) (b1 : b < 6) (P : Option Value → ax_W → Prop)
    (K1 : (∀ i j, 0 ≤ i → i < s 5 a → 0 ≤ j → j < s 6 a → s 4 (36 * a + 6 * i + j) = s 4 (36 * b + 6 * i + j)) → P (some (.int (jI 1))) w)
    (K0 : (¬ ∀ i j, 0 ≤ i → i < s 5 a → 0 ≤ j → j < s 6 a → s 4 (36 * a + 6 * i + j) = s 4 (36 * b + 6 * i + j)) → P (some (.int (jI 0))) w) :
    ∀ (f : Nat) (i j sm : Int), (s 5 a - i) * 7 + (s 6 a - j) ≤ f → 0 ≤ i → i < s 5 a → 0 ≤ j → j ≤ s 6 a → ((sm = 1 ∧ ∀ i' j', 0 ≤ i' → 0 ≤ j' → j' < s 6 a → (i' < i ∨ (i' = i ∧ j' < j)) → s 4 (36 * a + 6 * i' + j') = s 4 (36 * b + 6 * i' + j')) ∨ (sm = 0 ∧ ∃ i' j', 0 ≤ i' ∧ i' < s 5 a ∧ 0 ≤ j' ∧ j' < s 6 a ∧ s 4 (36 * a + 6 * i' + j') ≠ s 4 (36 * b + 6 * i' + j'))) →
    fin xs fr lo 183 69 [some (.ref 425), some (.int (jI a)), some (.int (jI b)), some (.int (jI sm)), some (.int (jI i)), some (.int (jI j))] [] w (Ret P) := by
  have hR := hM.1 a a0 a1
  have hC := hM.2.1 a a0 a1
  intro f
  induction f with
  | zero => intro i j sm hf i0 i1 j0 j1; omega
  | succ f ih =>
    intro i j sm hf i0 i1 j0 j1 hok
    have sm01 : sm = 0 ∨ sm = 1 := by rcases hok with ⟨h, _⟩ | ⟨h, _⟩ <;> omega
    refine fi_step (pc' := 71) m_Mo_same rfl rfl ?_
    refine fi_step (pc' := 72) m_Mo_same rfl rfl ?_
    refine r_get (p := 75) m_Mo_same rfl rfl (by assumption) rfl ?_
    refine fi_step (pc' := 76) m_Mo_same rfl rfl ?_
    refine r_ldI (p := 77) m_Mo_same rfl rfl (by assumption) (by decide) rfl (by decide) (by omega) (by omega) ?_
    refine s_ic_ge (p := 80) m_Mo_same rfl rfl (by omega) (by omega) (by omega) (by omega) (fun h => ?_) (fun h => ?_)
    · refine s_iinc (p := 121) m_Mo_same rfl rfl rfl ?_
      refine fi_step (pc' := 51) m_Mo_same rfl rfl ?_
      refine fi_step (pc' := 53) m_Mo_same rfl rfl ?_
      refine fi_step (pc' := 54) m_Mo_same rfl rfl ?_
      refine r_get (p := 57) m_Mo_same rfl rfl (by assumption) rfl ?_
      refine fi_step (pc' := 58) m_Mo_same rfl rfl ?_
      refine r_ldI (p := 59) m_Mo_same rfl rfl (by assumption) (by decide) rfl (by decide) (by omega) (by omega) ?_
      refine s_ic_ge (p := 62) m_Mo_same rfl rfl (by omega) (by omega) (by omega) (by omega) (fun g => ?_) (fun g => ?_)
      · refine fi_step (pc' := 125) m_Mo_same rfl rfl ?_
        refine p_retb m_Mo_same rfl rfl (by first | exact Or.inl rfl | exact Or.inr rfl | omega) ?_
        rcases hok with ⟨rfl, hok⟩ | ⟨rfl, i', j', q0, q1, q2, q3, q4⟩
        · exact K1 (fun i' j' p0 p1 p2 p3 => hok i' j' p0 p2 p3 (by omega))
        · exact K0 (fun q => q4 (q i' j' q0 q1 q2 q3))
      · refine fi_step (pc' := 63) m_Mo_same rfl rfl ?_
        refine s_if_eq (p := 66) m_Mo_same rfl rfl (by omega) (by omega) (fun g2 => ?_) (fun g2 => ?_)
        · refine fi_step (pc' := 125) m_Mo_same rfl rfl ?_
          refine p_retb m_Mo_same rfl rfl (by first | exact Or.inl rfl | exact Or.inr rfl | omega) ?_
          rcases hok with ⟨rfl, hok⟩ | ⟨rfl, i', j', q0, q1, q2, q3, q4⟩
          · omega
          · exact K0 (fun q => q4 (q i' j' q0 q1 q2 q3))
        · refine fi_step (pc' := 67) m_Mo_same rfl rfl ?_
          refine fi_step (pc' := 69) m_Mo_same rfl rfl ?_
          refine ih (i + 1) 0 sm (by omega) (by omega) (by omega) (by omega) (by omega) ?_
          rcases hok with ⟨rfl, hok⟩ | hok
          · exact Or.inl ⟨rfl, fun i' j' p0 p2 p3 hh => hok i' j' p0 p2 p3 (by omega)⟩
          · exact Or.inr hok
    · have na := hM.2.2 (36 * a + 6 * i + j) (by omega) (by omega)
      have nb := hM.2.2 (36 * b + 6 * i + j) (by omega) (by omega)
      rcases hok with ⟨rfl, hok⟩ | ⟨rfl, hok⟩
      · refine fi_step (pc' := 81) m_Mo_same rfl rfl ?_
        refine s_if_eq (p := 84) m_Mo_same rfl rfl (by omega) (by omega) (fun hbr => False.elim (by omega)) (fun hbr => ?_)
        refine fi_step (pc' := 85) m_Mo_same rfl rfl ?_
        refine fi_step (pc' := 86) m_Mo_same rfl rfl ?_
        refine fi_step (pc' := 88) m_Mo_same rfl rfl ?_
        refine fi_step (pc' := 90) m_Mo_same rfl rfl ?_
        refine c_4 (p := 93) m_Mo_same rfl inv_v (by decide) m_Mo_number rfl rfl (by omega) (by omega) (Nat.le_of_ble_eq_true rfl) (Nat.le_of_ble_eq_true rfl) (RW_rcv hw _) (c_number hw a0 a1 (by omega) (by omega) (by omega) (by omega)) ?_
        refine fi_step (pc' := 94) m_Mo_same rfl rfl ?_
        refine fi_step (pc' := 95) m_Mo_same rfl rfl ?_
        refine fi_step (pc' := 97) m_Mo_same rfl rfl ?_
        refine fi_step (pc' := 99) m_Mo_same rfl rfl ?_
        refine c_4 (p := 102) m_Mo_same rfl inv_v (by decide) m_Mo_number rfl rfl (by omega) (by omega) (Nat.le_of_ble_eq_true rfl) (Nat.le_of_ble_eq_true rfl) (RW_rcv hw _) (c_number hw b0 b1 (by omega) (by omega) (by omega) (by omega)) ?_
        refine s_lc_ne (q := 103) (p := 106) m_Mo_same rfl rfl rfl rfl (by omega) (by omega) (by omega) (by omega) (fun g => ?_) (fun g => ?_)
        · refine fi_step (pc' := 111) m_Mo_same rfl rfl ?_
          refine fi_step (pc' := 112) m_Mo_same rfl rfl ?_
          refine s_iinc (p := 115) m_Mo_same rfl rfl rfl ?_
          refine fi_step (pc' := 69) m_Mo_same rfl rfl ?_
          exact ih i (j + 1) 0 (by omega) i0 i1 (by omega) (by omega) (Or.inr ⟨rfl, i, j, i0, i1, j0, by omega, g⟩)
        · refine fi_step (pc' := 107) m_Mo_same rfl rfl ?_
          refine fi_step (pc' := 111) m_Mo_same rfl rfl ?_
          refine fi_step (pc' := 112) m_Mo_same rfl rfl ?_
          refine s_iinc (p := 115) m_Mo_same rfl rfl rfl ?_
          refine fi_step (pc' := 69) m_Mo_same rfl rfl ?_
          refine ih i (j + 1) 1 (by omega) i0 i1 (by omega) (by omega) (Or.inl ⟨rfl, fun i' j' p0 p2 p3 hh => ?_⟩)
          by_cases e : i' = i ∧ j' = j
          · rw [e.1, e.2]; exact g
          · exact hok i' j' p0 p2 p3 (by omega)
      · refine fi_step (pc' := 81) m_Mo_same rfl rfl ?_
        refine s_if_eq (p := 84) m_Mo_same rfl rfl (by omega) (by omega) (fun hbr => ?_) (fun hbr => False.elim (by omega))
        refine fi_step (pc' := 111) m_Mo_same rfl rfl ?_
        refine fi_step (pc' := 112) m_Mo_same rfl rfl ?_
        refine s_iinc (p := 115) m_Mo_same rfl rfl rfl ?_
        refine fi_step (pc' := 69) m_Mo_same rfl rfl ?_
        exact ih i (j + 1) 0 (by omega) i0 i1 (by omega) (by omega) (Or.inr ⟨rfl, hok⟩)
theorem c_same {a b : Int} {w : ax_W} {s : mo_S} (hfr : 2 ≤ fr) (hlo : 80 ≤ lo) (hw : RW w0 w s) (hM : MI s) (a0 : -2147483648 ≤ a) (a1 : a < 2147483648) (b0 : -2147483648 ≤ b) (b1 : b < 2147483648) :
    fin xs fr lo 183 0 (ax_ent [.ref 425, .int (jI a), .int (jI b)] 6) [] w (Ret fun u w' =>
      (¬ ((0 ≤ a ∧ a < 6) ∧ (0 ≤ b ∧ b < 6)) ∧ RW w0 w' (up s 0 0 1) ∧ u = some (.int (jI 0))) ∨
      (((0 ≤ a ∧ a < 6) ∧ (0 ≤ b ∧ b < 6)) ∧ RW w0 w' (up s 0 0 0) ∧ (((s 5 a = s 5 b ∧ s 6 a = s 6 b ∧ ∀ i j, 0 ≤ i → i < s 5 a → 0 ≤ j → j < s 6 a → s 4 (36 * a + 6 * i + j) = s 4 (36 * b + 6 * i + j)) ∧ u = some (.int (jI 1))) ∨ (¬ (s 5 a = s 5 b ∧ s 6 a = s 6 b ∧ ∀ i j, 0 ≤ i → i < s 5 a → 0 ≤ j → j < s 6 a → s 4 (36 * a + 6 * i + j) = s 4 (36 * b + 6 * i + j)) ∧ u = some (.int (jI 0)))))) := by
  refine fi_step (pc' := 1) m_Mo_same rfl rfl ?_
  refine fi_step (pc' := 2) m_Mo_same rfl rfl ?_
  refine fi_step (pc' := 3) m_Mo_same rfl rfl ?_
  refine fi_step (pc' := 4) m_Mo_same rfl rfl ?_
  refine g_4 (p := 7) m_Mo_same rfl inv_v (by decide) m_Mo_areThere rfl rfl (by omega) (by omega) (Nat.le_of_ble_eq_true rfl) (Nat.le_of_ble_eq_true rfl) (RW_rcv hw _) (c_areThere (by omega) (by omega) hw a0 a1 b0 b1 b0 b1) (fun v w hP => ?_)
  obtain ⟨hw, rfl⟩ := hP
  by_cases hh : (0 ≤ a ∧ a < 6) ∧ (0 ≤ b ∧ b < 6)
  · rw [if_pos ⟨hh.1, hh.2, hh.2⟩] at hw
    have hra := hM.1 a hh.1.1 hh.1.2
    have hca := hM.2.1 a hh.1.1 hh.1.2
    have hrb := hM.1 b hh.2.1 hh.2.2
    have hcb := hM.2.1 b hh.2.1 hh.2.2
    have e4 : up s 0 0 0 4 = s 4 := up_ne _ (by decide) _ _
    have e5 : up s 0 0 0 5 = s 5 := up_ne _ (by decide) _ _
    have e6 : up s 0 0 0 6 = s 6 := up_ne _ (by decide) _ _
    have F1 : up s 0 0 0 5 a = s 5 a := by rw [e5]
    have F2 : up s 0 0 0 5 b = s 5 b := by rw [e5]
    have F3 : up s 0 0 0 6 a = s 6 a := by rw [e6]
    have F4 : up s 0 0 0 6 b = s 6 b := by rw [e6]
    have hM0 : MI (up s 0 0 0) := MI_congr hM ⟨e4, e5, e6⟩
    rw [if_pos ⟨hh.1, hh.2, hh.2⟩]
    refine s_if_ne (p := 10) m_Mo_same rfl rfl (by omega) (by omega) (fun hbr => ?_) (fun hbr => False.elim (by omega))
    refine fi_step (pc' := 13) m_Mo_same rfl rfl ?_
    refine r_get (p := 16) m_Mo_same rfl rfl (by assumption) rfl ?_
    refine fi_step (pc' := 17) m_Mo_same rfl rfl ?_
    refine r_ldI (p := 18) m_Mo_same rfl rfl (by assumption) (by decide) rfl (by decide) (by omega) (by omega) ?_
    refine fi_step (pc' := 19) m_Mo_same rfl rfl ?_
    refine r_get (p := 22) m_Mo_same rfl rfl (by assumption) rfl ?_
    refine fi_step (pc' := 23) m_Mo_same rfl rfl ?_
    refine r_ldI (p := 24) m_Mo_same rfl rfl (by assumption) (by decide) rfl (by decide) (by omega) (by omega) ?_
    refine s_ic_ne (p := 27) m_Mo_same rfl rfl (by omega) (by omega) (by omega) (by omega) (fun h1 => ?_) (fun h1 => ?_)
    · refine fi_step (pc' := 47) m_Mo_same rfl rfl ?_
      refine fi_step (pc' := 48) m_Mo_same rfl rfl ?_
      refine fi_step (pc' := 49) m_Mo_same rfl rfl ?_
      refine fi_step (pc' := 51) m_Mo_same rfl rfl ?_
      refine fi_step (pc' := 53) m_Mo_same rfl rfl ?_
      refine fi_step (pc' := 54) m_Mo_same rfl rfl ?_
      refine r_get (p := 57) m_Mo_same rfl rfl (by assumption) rfl ?_
      refine fi_step (pc' := 58) m_Mo_same rfl rfl ?_
      refine r_ldI (p := 59) m_Mo_same rfl rfl (by assumption) (by decide) rfl (by decide) (by omega) (by omega) ?_
      refine s_ic_ge (p := 62) m_Mo_same rfl rfl (by omega) (by omega) (by omega) (by omega) (fun hbr => False.elim (by omega)) (fun hbr => ?_)
      refine fi_step (pc' := 63) m_Mo_same rfl rfl ?_
      refine s_if_eq (p := 66) m_Mo_same rfl rfl (by omega) (by omega) (fun hbr => ?_) (fun hbr => False.elim (by omega))
      refine fi_step (pc' := 125) m_Mo_same rfl rfl ?_
      refine p_retb m_Mo_same rfl rfl (by first | exact Or.inl rfl | exact Or.inr rfl | omega) ?_
      exact Or.inr ⟨hh, hw, Or.inr ⟨fun q => by omega, rfl⟩⟩
    · refine fi_step (pc' := 28) m_Mo_same rfl rfl ?_
      refine r_get (p := 31) m_Mo_same rfl rfl (by assumption) rfl ?_
      refine fi_step (pc' := 32) m_Mo_same rfl rfl ?_
      refine r_ldI (p := 33) m_Mo_same rfl rfl (by assumption) (by decide) rfl (by decide) (by omega) (by omega) ?_
      refine fi_step (pc' := 34) m_Mo_same rfl rfl ?_
      refine r_get (p := 37) m_Mo_same rfl rfl (by assumption) rfl ?_
      refine fi_step (pc' := 38) m_Mo_same rfl rfl ?_
      refine r_ldI (p := 39) m_Mo_same rfl rfl (by assumption) (by decide) rfl (by decide) (by omega) (by omega) ?_
      refine s_ic_ne (p := 42) m_Mo_same rfl rfl (by omega) (by omega) (by omega) (by omega) (fun h2 => ?_) (fun h2 => ?_)
      · refine fi_step (pc' := 47) m_Mo_same rfl rfl ?_
        refine fi_step (pc' := 48) m_Mo_same rfl rfl ?_
        refine fi_step (pc' := 49) m_Mo_same rfl rfl ?_
        refine fi_step (pc' := 51) m_Mo_same rfl rfl ?_
        refine fi_step (pc' := 53) m_Mo_same rfl rfl ?_
        refine fi_step (pc' := 54) m_Mo_same rfl rfl ?_
        refine r_get (p := 57) m_Mo_same rfl rfl (by assumption) rfl ?_
        refine fi_step (pc' := 58) m_Mo_same rfl rfl ?_
        refine r_ldI (p := 59) m_Mo_same rfl rfl (by assumption) (by decide) rfl (by decide) (by omega) (by omega) ?_
        refine s_ic_ge (p := 62) m_Mo_same rfl rfl (by omega) (by omega) (by omega) (by omega) (fun hbr => False.elim (by omega)) (fun hbr => ?_)
        refine fi_step (pc' := 63) m_Mo_same rfl rfl ?_
        refine s_if_eq (p := 66) m_Mo_same rfl rfl (by omega) (by omega) (fun hbr => ?_) (fun hbr => False.elim (by omega))
        refine fi_step (pc' := 125) m_Mo_same rfl rfl ?_
        refine p_retb m_Mo_same rfl rfl (by first | exact Or.inl rfl | exact Or.inr rfl | omega) ?_
        exact Or.inr ⟨hh, hw, Or.inr ⟨fun q => by omega, rfl⟩⟩
      · refine fi_step (pc' := 43) m_Mo_same rfl rfl ?_
        refine fi_step (pc' := 47) m_Mo_same rfl rfl ?_
        refine fi_step (pc' := 48) m_Mo_same rfl rfl ?_
        refine fi_step (pc' := 49) m_Mo_same rfl rfl ?_
        refine fi_step (pc' := 51) m_Mo_same rfl rfl ?_
        refine fi_step (pc' := 53) m_Mo_same rfl rfl ?_
        refine fi_step (pc' := 54) m_Mo_same rfl rfl ?_
        refine r_get (p := 57) m_Mo_same rfl rfl (by assumption) rfl ?_
        refine fi_step (pc' := 58) m_Mo_same rfl rfl ?_
        refine r_ldI (p := 59) m_Mo_same rfl rfl (by assumption) (by decide) rfl (by decide) (by omega) (by omega) ?_
        refine s_ic_ge (p := 62) m_Mo_same rfl rfl (by omega) (by omega) (by omega) (by omega) (fun hbr => False.elim (by omega)) (fun hbr => ?_)
        refine fi_step (pc' := 63) m_Mo_same rfl rfl ?_
        refine s_if_eq (p := 66) m_Mo_same rfl rfl (by omega) (by omega) (fun hbr => False.elim (by omega)) (fun hbr => ?_)
        refine fi_step (pc' := 67) m_Mo_same rfl rfl ?_
        refine fi_step (pc' := 69) m_Mo_same rfl rfl ?_
        refine same_loop (by omega) (by omega) hw hM0 hh.1.1 hh.1.2 hh.2.1 hh.2.2 _ ?_ ?_ 100 0 0 1 (by omega) (by omega) (by omega) (by omega) (by omega) (Or.inl ⟨rfl, fun i' j' _ _ _ hh => by omega⟩)
        · intro q
          rw [F1, F3, e4] at q
          exact Or.inr ⟨hh, hw, Or.inl ⟨⟨by omega, by omega, q⟩, rfl⟩⟩
        · intro q
          rw [F1, F3, e4] at q
          exact Or.inr ⟨hh, hw, Or.inr ⟨fun k => q k.2.2, rfl⟩⟩
  · have hn : ¬ ((0 ≤ a ∧ a < 6) ∧ (0 ≤ b ∧ b < 6) ∧ (0 ≤ b ∧ b < 6)) := fun q => hh ⟨q.1, q.2.1⟩
    rw [if_neg hn] at hw
    rw [if_neg hn]
    refine s_if_ne (p := 10) m_Mo_same rfl rfl (by omega) (by omega) (fun hbr => False.elim (by omega)) (fun hbr => ?_)
    refine fi_step (pc' := 11) m_Mo_same rfl rfl ?_
    refine p_retb m_Mo_same rfl rfl (by first | exact Or.inl rfl | exact Or.inr rfl | omega) ?_
    exact Or.inl ⟨hh, hw, rfl⟩
theorem c_character {i : Int} {w : ax_W} {s : mo_S} (hw : RW w0 w s) (p0 : 0 ≤ s 0 5) (p1 : s 0 5 ≤ 1200) (i0 : -2147483648 ≤ i) (i1 : i < 2147483648) :
    fin xs fr lo 182 0 (ax_ent [.ref 425, .int (jI i)] 2) [] w (Ret fun u w' => RW w0 w' (up s 0 0 0) ∧ u = some (.int (jI (if 0 ≤ i ∧ i < s 0 5 then s 10 i else -1)))) := by
  have e5 : up s 0 0 0 0 5 = s 0 5 := by rw [up_same, up1_ne _ (by decide)]
  have e10 : up s 0 0 0 10 = s 10 := up_ne _ (by decide) _ _
  refine fi_step (pc' := 1) m_Mo_character rfl rfl ?_
  refine fi_step (pc' := 2) m_Mo_character rfl rfl ?_
  refine r_put (p := 5) 0 m_Mo_character rfl rfl (by assumption) (r_put0 _ _) rfl (fun w hw => ?_)
  refine fi_step (pc' := 6) m_Mo_character rfl rfl ?_
  refine s_if_lt (p := 9) m_Mo_character rfl rfl (by omega) (by omega) (fun h => ?_) (fun h => ?_)
  · rw [if_neg (by omega)]
    refine fi_step (pc' := 27) m_Mo_character rfl rfl ?_
    refine p_reti m_Mo_character rfl rfl ?_
    exact ⟨hw, rfl⟩
  · refine fi_step (pc' := 10) m_Mo_character rfl rfl ?_
    refine fi_step (pc' := 11) m_Mo_character rfl rfl ?_
    refine r_get (p := 14) m_Mo_character rfl rfl (by assumption) rfl ?_
    refine s_ic_ge (p := 17) m_Mo_character rfl rfl (by omega) (by omega) (by omega) (by omega) (fun g => ?_) (fun g => ?_)
    · rw [if_neg (by omega)]
      refine fi_step (pc' := 27) m_Mo_character rfl rfl ?_
      refine p_reti m_Mo_character rfl rfl ?_
      exact ⟨hw, rfl⟩
    · rw [if_pos (by omega), ← e10]
      refine fi_step (pc' := 18) m_Mo_character rfl rfl ?_
      refine r_get (p := 21) m_Mo_character rfl rfl (by assumption) rfl ?_
      refine fi_step (pc' := 22) m_Mo_character rfl rfl ?_
      refine r_ldI (p := 23) m_Mo_character rfl rfl (by assumption) (by decide) rfl (by decide) (by omega) (by omega) ?_
      refine fi_step (pc' := 27) m_Mo_character rfl rfl ?_
      refine p_reti m_Mo_character rfl rfl ?_
      exact ⟨hw, rfl⟩
theorem c_check {m : Int} {w : ax_W} {s : mo_S} (hfr : 1 ≤ fr) (hlo : 30 ≤ lo) (hw : RW w0 w s) (m0 : -2147483648 ≤ m) (m1 : m < 2147483648) :
    fin xs fr lo 184 0 (ax_ent [.ref 425, .int (jI m)] 2) [] w (Ret fun u w' => RW w0 w' (up s 0 0 (if 0 ≤ m ∧ m < 6 then 0 else 1)) ∧ u = some (.int (jI (if 0 ≤ m ∧ m < 6 then 1 else 0)))) := by
  refine fi_step (pc' := 1) m_Mo_check rfl rfl ?_
  refine fi_step (pc' := 2) m_Mo_check rfl rfl ?_
  refine fi_step (pc' := 3) m_Mo_check rfl rfl ?_
  refine c_2 (p := 6) m_Mo_check rfl inv_v (by decide) m_Mo_isMatrix rfl rfl (by omega) (by omega) (Nat.le_of_ble_eq_true rfl) (Nat.le_of_ble_eq_true rfl) (RW_rcv hw _) (c_isMatrix m0 m1) ?_
  by_cases h : 0 ≤ m ∧ m < 6
  · rw [if_pos h, if_pos h]
    have e0 : up s 0 0 0 0 0 = 0 := by rw [up_same, up1_same]
    refine s_if_eq (p := 9) m_Mo_check rfl rfl (by omega) (by omega) (fun hbr => False.elim (by omega)) (fun hbr => ?_)
    refine fi_step (pc' := 10) m_Mo_check rfl rfl ?_
    refine fi_step (pc' := 14) m_Mo_check rfl rfl ?_
    refine r_put (p := 17) 0 m_Mo_check rfl rfl (by assumption) (r_put0 _ _) rfl (fun w hw => ?_)
    refine fi_step (pc' := 18) m_Mo_check rfl rfl ?_
    refine r_get (p := 21) m_Mo_check rfl rfl (by assumption) rfl ?_
    refine s_if_le (p := 24) m_Mo_check rfl rfl (by omega) (by omega) (fun hbr => ?_) (fun hbr => False.elim (by omega))
    refine fi_step (pc' := 29) m_Mo_check rfl rfl ?_
    refine p_reti m_Mo_check rfl rfl ?_
    exact ⟨hw, rfl⟩
  · rw [if_neg h, if_neg h]
    have e0 : up s 0 0 1 0 0 = 1 := by rw [up_same, up1_same]
    refine s_if_eq (p := 9) m_Mo_check rfl rfl (by omega) (by omega) (fun hbr => ?_) (fun hbr => False.elim (by omega))
    refine fi_step (pc' := 14) m_Mo_check rfl rfl ?_
    refine r_put (p := 17) 0 m_Mo_check rfl rfl (by assumption) (r_put0 _ _) rfl (fun w hw => ?_)
    refine fi_step (pc' := 18) m_Mo_check rfl rfl ?_
    refine r_get (p := 21) m_Mo_check rfl rfl (by assumption) rfl ?_
    refine s_if_le (p := 24) m_Mo_check rfl rfl (by omega) (by omega) (fun hbr => False.elim (by omega)) (fun hbr => ?_)
    refine fi_step (pc' := 25) m_Mo_check rfl rfl ?_
    refine fi_step (pc' := 29) m_Mo_check rfl rfl ?_
    refine p_reti m_Mo_check rfl rfl ?_
    exact ⟨hw, rfl⟩
/-- what is looked at changes alone -/
def kL (s s' : mo_S) : Prop := (∀ a, a ≠ 0 → a ≠ 7 → s' a = s a) ∧ ∀ i, i ≠ 1 → i ≠ 2 → s' 0 i = s 0 i
theorem look_loop {m : Int} {S : mo_S} (hfr : 1 ≤ fr) (hlo : 30 ≤ lo) (hM : MI S) (m0 : 0 ≤ m) (m1 : m < 6) (h1 : S 0 1 = S 5 m) (h2 : S 0 2 = S 6 m) :
    ∀ (f : Nat) (i j : Int) (w : ax_W) (s : mo_S), (S 5 m - i) * 7 + (S 6 m - j) ≤ f → 0 ≤ i → i < S 5 m → 0 ≤ j → j ≤ S 6 m → RW w0 w s → (∀ a, a ≠ 7 → s a = S a) → (∀ i' j', 0 ≤ i' → 0 ≤ j' → j' < S 6 m → (i' < i ∨ (i' = i ∧ j' < j)) → s 7 (12 * i' + j') = S 4 (36 * m + 6 * i' + j')) →
    fin xs fr lo 144 32 [some (.ref 425), some (.int (jI m)), some (.int (jI i)), some (.int (jI j))] [] w (Ret fun u w' => u = none ∧ ∃ s', RW w0 w' s' ∧ (∀ a, a ≠ 7 → s' a = S a) ∧ ∀ i j, 0 ≤ i → i < S 5 m → 0 ≤ j → j < S 6 m → s' 7 (12 * i + j) = S 4 (36 * m + 6 * i + j)) := by
  have hR := hM.1 m m0 m1
  have hC := hM.2.1 m m0 m1
  intro f
  induction f with
  | zero => intro i j w s hf i0 i1 j0 j1; omega
  | succ f ih =>
    intro i j w s hf i0 i1 j0 j1 hw ho hok
    have e1 : s 0 1 = S 5 m := by rw [ho 0 (by decide)]; exact h1
    have e2 : s 0 2 = S 6 m := by rw [ho 0 (by decide)]; exact h2
    refine fi_step (pc' := 33) m_Mo_lookAt rfl rfl ?_
    refine fi_step (pc' := 34) m_Mo_lookAt rfl rfl ?_
    refine r_get (p := 37) m_Mo_lookAt rfl rfl (by assumption) rfl ?_
    refine s_ic_ge (p := 40) m_Mo_lookAt rfl rfl (by omega) (by omega) (by omega) (by omega) (fun h => ?_) (fun h => ?_)
    · refine s_iinc (p := 67) m_Mo_lookAt rfl rfl rfl ?_
      refine fi_step (pc' := 22) m_Mo_lookAt rfl rfl ?_
      refine fi_step (pc' := 23) m_Mo_lookAt rfl rfl ?_
      refine fi_step (pc' := 24) m_Mo_lookAt rfl rfl ?_
      refine r_get (p := 27) m_Mo_lookAt rfl rfl (by assumption) rfl ?_
      refine s_ic_ge (p := 30) m_Mo_lookAt rfl rfl (by omega) (by omega) (by omega) (by omega) (fun g => ?_) (fun g => ?_)
      · refine p_ret m_Mo_lookAt rfl rfl ?_
        exact ⟨rfl, s, hw, ho, fun i' j' p0 p1 p2 p3 => hok i' j' p0 p2 p3 (by omega)⟩
      · refine fi_step (pc' := 31) m_Mo_lookAt rfl rfl ?_
        refine fi_step (pc' := 32) m_Mo_lookAt rfl rfl ?_
        exact ih (i + 1) 0 w s (by omega) (by omega) (by omega) (by omega) (by omega) hw ho (fun i' j' p0 p2 p3 hh => hok i' j' p0 p2 p3 (by omega))
    · refine fi_step (pc' := 41) m_Mo_lookAt rfl rfl ?_
      refine r_get (p := 44) m_Mo_lookAt rfl rfl (by assumption) rfl ?_
      refine s_bipush (p := 46) m_Mo_lookAt rfl rfl rfl ?_
      refine fi_step (pc' := 47) m_Mo_lookAt rfl rfl ?_
      refine s_imul (p := 48) m_Mo_lookAt rfl rfl ?_
      refine fi_step (pc' := 49) m_Mo_lookAt rfl rfl ?_
      refine s_iadd (p := 50) m_Mo_lookAt rfl rfl ?_
      refine fi_step (pc' := 51) m_Mo_lookAt rfl rfl ?_
      refine fi_step (pc' := 52) m_Mo_lookAt rfl rfl ?_
      refine fi_step (pc' := 53) m_Mo_lookAt rfl rfl ?_
      refine fi_step (pc' := 54) m_Mo_lookAt rfl rfl ?_
      refine c_4 (p := 57) m_Mo_lookAt rfl inv_v (by decide) m_Mo_number rfl rfl (by omega) (by omega) (Nat.le_of_ble_eq_true rfl) (Nat.le_of_ble_eq_true rfl) (RW_rcv hw _) (c_number hw m0 m1 (by omega) (by omega) (by omega) (by omega)) ?_
      refine r_stL (p := 58) m_Mo_lookAt rfl rfl (by assumption) (by decide) (fun _ => rfl) (by decide) (by omega) (by omega) (fun w hw => ?_)
      refine s_iinc (p := 61) m_Mo_lookAt rfl rfl rfl ?_
      refine fi_step (pc' := 32) m_Mo_lookAt rfl rfl ?_
      refine ih i (j + 1) w _ (by omega) i0 i1 (by omega) (by omega) hw (fun a ha => by rw [up_ne _ ha]; exact ho a ha) (fun i' j' p0 p2 p3 hh => ?_)
      rw [up_same]
      by_cases e : i' = i ∧ j' = j
      · rw [e.1, e.2, up1_same, ho 4 (by decide)]
      · rw [up1_ne _ (by omega)]; exact hok i' j' p0 p2 p3 (by omega)
theorem c_lookAt {m : Int} {w : ax_W} {s : mo_S} (hfr : 1 ≤ fr) (hlo : 30 ≤ lo) (hw : RW w0 w s) (hM : MI s) (m0 : 0 ≤ m) (m1 : m < 6) :
    fin xs fr lo 144 0 (ax_ent [.ref 425, .int (jI m)] 4) [] w (Ret fun u w' => u = none ∧ ∃ s', RW w0 w' s' ∧ kL s s' ∧ s' 0 1 = s 5 m ∧ s' 0 2 = s 6 m ∧ ∀ i j, 0 ≤ i → i < s 5 m → 0 ≤ j → j < s 6 m → s' 7 (12 * i + j) = s 4 (36 * m + 6 * i + j)) := by
  have hR := hM.1 m m0 m1
  have hC := hM.2.1 m m0 m1
  have e6 : up s 0 1 (s 5 m) 6 m = s 6 m := by rw [up_ne _ (by decide)]
  refine fi_step (pc' := 1) m_Mo_lookAt rfl rfl ?_
  refine fi_step (pc' := 2) m_Mo_lookAt rfl rfl ?_
  refine r_get (p := 5) m_Mo_lookAt rfl rfl (by assumption) rfl ?_
  refine fi_step (pc' := 6) m_Mo_lookAt rfl rfl ?_
  refine r_ldI (p := 7) m_Mo_lookAt rfl rfl (by assumption) (by decide) rfl (by decide) (by omega) (by omega) ?_
  refine r_put (p := 10) 1 m_Mo_lookAt rfl rfl (by assumption) (r_put1 _ _) rfl (fun w hw => ?_)
  refine fi_step (pc' := 11) m_Mo_lookAt rfl rfl ?_
  refine fi_step (pc' := 12) m_Mo_lookAt rfl rfl ?_
  refine r_get (p := 15) m_Mo_lookAt rfl rfl (by assumption) rfl ?_
  refine fi_step (pc' := 16) m_Mo_lookAt rfl rfl ?_
  refine r_ldI (p := 17) m_Mo_lookAt rfl rfl (by assumption) (by decide) rfl (by decide) (by omega) (by omega) ?_
  refine r_put (p := 20) 2 m_Mo_lookAt rfl rfl (by assumption) (r_put2 _ _) rfl (fun w hw => ?_)
  refine fi_step (pc' := 21) m_Mo_lookAt rfl rfl ?_
  refine fi_step (pc' := 22) m_Mo_lookAt rfl rfl ?_
  rw [e6] at hw
  generalize hS : up (up s 0 1 (s 5 m)) 0 2 (s 6 m) = S at hw
  have E1 : S 0 1 = s 5 m := by rw [← hS, up_same, up1_ne _ (by decide), up_same, up1_same]
  have E2 : S 0 2 = s 6 m := by rw [← hS, up_same, up1_same]
  have EO : ∀ a, a ≠ 0 → S a = s a := fun a ha => by rw [← hS, up_ne _ ha, up_ne _ ha]
  have E0 : ∀ i, i ≠ 1 → i ≠ 2 → S 0 i = s 0 i := fun i h1 h2 => by rw [← hS, up_same, up1_ne _ h2, up_same, up1_ne _ h1]
  have F5 : S 5 m = s 5 m := by rw [EO 5 (by decide)]
  have F6 : S 6 m = s 6 m := by rw [EO 6 (by decide)]
  refine fi_step (pc' := 23) m_Mo_lookAt rfl rfl ?_
  refine fi_step (pc' := 24) m_Mo_lookAt rfl rfl ?_
  refine r_get (p := 27) m_Mo_lookAt rfl rfl (by assumption) rfl ?_
  refine s_ic_ge (p := 30) m_Mo_lookAt rfl rfl (by omega) (by omega) (by omega) (by omega) (fun hbr => False.elim (by omega)) (fun hbr => ?_)
  refine fi_step (pc' := 31) m_Mo_lookAt rfl rfl ?_
  refine fi_step (pc' := 32) m_Mo_lookAt rfl rfl ?_
  refine fi_mono (look_loop (S := S) hfr hlo (MI_congr hM ⟨EO 4 (by decide), EO 5 (by decide), EO 6 (by decide)⟩) m0 m1 (by omega) (by omega) 100 0 0 w S (by omega) (by omega) (by omega) (by omega) (by omega) hw (fun _ _ => rfl) (fun i' j' _ _ _ hh => by omega)) ?_
  rintro o w' ⟨v, rfl, hv, s', g1, g2, g3⟩
  refine ⟨v, rfl, hv, s', g1, ⟨fun a h0 h7 => by rw [g2 a h7, EO a h0], fun i h1 h2 => by rw [g2 0 (by decide), E0 i h1 h2]⟩, by rw [g2 0 (by decide), E1], by rw [g2 0 (by decide), E2], fun i j p0 p1 p2 p3 => ?_⟩
  rw [g3 i j p0 (by omega) p2 (by omega), EO 4 (by decide)]
end LOOK
