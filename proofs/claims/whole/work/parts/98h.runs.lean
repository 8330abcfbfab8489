/-! THE LAW: its loop, its start -/
theorem jI_and31 (a : Int) : jI a &&& jI 31 = jI (a % 32) := by
  apply Int32.toBitVec.inj
  apply BitVec.eq_of_toNat_eq
  simp only [jI, Int32.toBitVec_and, Int32.toBitVec_ofInt, BitVec.toNat_and, BitVec.toNat_ofInt]
  rw [show ((31 : Int) % ((2 ^ 32 : Nat) : Int)).toNat = 2 ^ 5 - 1 from by decide, Nat.and_two_pow_sub_one_eq_mod]
  omega
section LAWL
variable {xs : List Int32} {fr lo L Z i : Nat} {w : ax_W} {Q : Outcome → ax_W → Prop} {y5 y6 y7 : Option Value}
theorem l_len {z pc p l u1 u2 u3 : Nat} {ls : List (Option Value)} {st : List Value} {M : ax_M} (hM : ax_prog[z]? = some M) (he : M.1[pc]? = some (some (.arraylength, l, u1, u2, u3))) (hp : pc + l = p) (kk : fin xs fr lo z p ls (.int (jI (xs.length : Int)) :: st) w Q) : fin xs fr lo z pc ls (.retAddr 0 :: st) w Q := by
  subst hp
  have e : xs.length.toInt32 = jI (xs.length : Int) := Int32.ofInt_eq_ofNat.symm
  refine fi_hp hM he rfl rfl rfl (st' := .int (jI (xs.length : Int)) :: st) (w1 := w) ?_ kk
  simp [ax_hp, ax_alen, ax_ext, e]
set_option maxRecDepth 20000 in
theorem lw_body (hLK : LK w L Z) (hi : (i : Int) + 6 ≤ xs.length) (hx : xs.length ≤ 3072) (hfr : 12 ≤ fr) (hlo : 502 ≤ lo) (K : ∀ w y5 y6 y7, LK w (L + 1) (Z + 198) → fin xs fr lo 185 1412 [some (.retAddr 0), some (.ref 0), some (.ref 425), some (.ref 437), some (.int (jI (i : Int))), y5, y6, y7] [] w Q) : fin xs fr lo 185 33 [some (.retAddr 0), some (.ref 0), some (.ref 425), some (.ref 437), some (.int (jI (i : Int))), y5, y6, y7] [] w Q := by
  have hb := sc_b xs (i : Int)
  obtain ⟨x, hx0, hx1, hxe⟩ : ∃ x : Int, 0 ≤ x ∧ x < 32 ∧ sc xs (i : Int) % 32 = x := ⟨_, by omega, by omega, rfl⟩
  refine fi_step (pc' := 34) m_La_law rfl rfl ?_
  refine fi_step (pc' := 36) m_La_law rfl rfl ?_
  refine l_ld (p := 37) m_La_law rfl rfl (by omega) (by omega) (by omega) ?_
  refine s_bipush (p := 39) m_La_law rfl rfl rfl ?_
  refine fi_step (pc' := 40) m_La_law rfl rfl ?_
  show fin xs fr lo 185 40 [some (.retAddr 0), some (.ref 0), some (.ref 425), some (.ref 437), some (.int (jI (i : Int))), y5, y6, y7] [.int (jI (sc xs (i : Int)) &&& jI 31)] w Q
  rw [jI_and31, hxe]
  have hcs : x = 0 ∨ x = 1 ∨ x = 2 ∨ x = 3 ∨ x = 4 ∨ x = 5 ∨ x = 6 ∨ x = 7 ∨ x = 8 ∨ x = 9 ∨ x = 10 ∨ x = 11 ∨ x = 12 ∨ x = 13 ∨ x = 14 ∨ x = 15 ∨ x = 16 ∨ x = 17 ∨ x = 18 ∨ x = 19 ∨ x = 20 ∨ x = 21 ∨ x = 22 ∨ x = 23 ∨ x = 24 ∨ x = 25 ∨ x = 26 ∨ x = 27 ∨ x = 28 ∨ x = 29 ∨ x = 30 ∨ x = 31 := by omega
  have hmore := LK_more hLK (show L ≤ L + 1 by omega) (show Z ≤ Z + 198 by omega)
  rcases hcs with e | e | e | e | e | e | e | e | e | e | e | e | e | e | e | e | e | e | e | e | e | e | e | e | e | e | e | e | e | e | e | e <;> rw [e]
  · exact fi_step (pc' := 132) m_La_law rfl rfl (lw_make hLK hi hx hfr hlo K)
  · exact fi_step (pc' := 192) m_La_law rfl rfl (lw_put hLK hi hx hfr hlo K)
  · exact fi_step (pc' := 296) m_La_law rfl rfl (lw_at hLK hi hx hfr hlo K)
  · exact fi_step (pc' := 375) m_La_law rfl rfl (lw_size hLK hi hx hfr hlo K)
  · exact fi_step (pc' := 412) m_La_law rfl rfl (lw_combine hLK hi hx hfr hlo K)
  · exact fi_step (pc' := 516) m_La_law rfl rfl (lw_multiply hLK hi hx hfr hlo K)
  · exact fi_step (pc' := 596) m_La_law rfl rfl (lw_turn hLK hi hx hfr hlo K)
  · exact fi_step (pc' := 644) m_La_law rfl rfl (lw_rank hLK hi hx hfr hlo K)
  · exact fi_step (pc' := 700) m_La_law rfl rfl (lw_hermite hLK hi hx hfr hlo K)
  · exact fi_step (pc' := 768) m_La_law rfl rfl (lw_kernel hLK hi hx hfr hlo K)
  · exact fi_step (pc' := 836) m_La_law rfl rfl (lw_solve hLK hi hx hfr hlo K)
  · exact fi_step (pc' := 916) m_La_law rfl rfl (lw_determinant hLK hi hx hfr hlo K)
  · exact fi_step (pc' := 972) m_La_law rfl rfl (lw_divisor hLK hi hx hfr hlo K)
  · exact fi_step (pc' := 1040) m_La_law rfl rfl (lw_factor hLK hi hx hfr hlo K)
  · exact fi_step (pc' := 1108) m_La_law rfl rfl (lw_inverse hLK hi hx hfr hlo K)
  · exact fi_step (pc' := 1188) m_La_law rfl rfl (lw_characteristic hLK hi hx hfr hlo K)
  · exact fi_step (pc' := 1256) m_La_law rfl rfl (lw_character hLK hi hx hfr hlo K)
  · exact fi_step (pc' := 1281) m_La_law rfl rfl (lw_same hLK hi hx hfr hlo K)
  · exact fi_step (pc' := 1356) m_La_law rfl rfl (lw_check hLK hi hx hfr hlo K)
  all_goals exact fi_step (pc' := 1412) m_La_law rfl rfl (K _ _ _ _ hmore)
set_option maxRecDepth 20000 in
theorem lw_loop (hx : xs.length ≤ 3072) (hfr : 12 ≤ fr) (hlo : 502 ≤ lo) : ∀ (n i : Nat) (w : ax_W) (y5 y6 y7 : Option Value), xs.length < i + 6 * n + 6 → i ≤ 6 * L → i ≤ xs.length → LK w (438 + i / 6) (1616538 + 198 * (i / 6)) → i % 6 = 0 →
    fin xs fr lo 185 23 [some (.retAddr 0), some (.ref 0), some (.ref 425), some (.ref 437), some (.int (jI (i : Int))), y5, y6, y7] [] w (fun o w' => o = .returned (some (.int (jI 1))) ∧ LK w' (438 + 512) (1616538 + 198 * 512)) := by
  have stop : ∀ (i : Nat) (w : ax_W) (y5 y6 y7 : Option Value), xs.length < i + 6 → i ≤ xs.length → LK w (438 + i / 6) (1616538 + 198 * (i / 6)) →
      fin xs fr lo 185 23 [some (.retAddr 0), some (.ref 0), some (.ref 425), some (.ref 437), some (.int (jI (i : Int))), y5, y6, y7] [] w (fun o w' => o = .returned (some (.int (jI 1))) ∧ LK w' (438 + 512) (1616538 + 198 * 512)) := by
    intro i w y5 y6 y7 h1 h2 hL
    refine fi_step (pc' := 25) m_La_law rfl rfl ?_
    refine fi_step (pc' := 26) m_La_law rfl rfl ?_
    refine l_len (p := 27) m_La_law rfl rfl ?_
    refine s_bipush (p := 29) m_La_law rfl rfl rfl ?_
    refine s_isub (p := 30) m_La_law rfl rfl ?_
    refine s_ic_gt (p := 33) m_La_law rfl rfl (by omega) (by omega) (by omega) (by omega) (fun hbr => ?_) (fun hbr => False.elim (by omega))
    refine fi_step (pc' := 1419) m_La_law rfl rfl ?_
    exact fi_ret m_La_law rfl (v := some (.int (jI 1))) rfl ⟨rfl, LK_more hL (by omega) (by omega)⟩
  intro n
  induction n with
  | zero =>
    intro i w y5 y6 y7 h1 _ h2 hL _
    exact stop i w y5 y6 y7 (by omega) h2 hL
  | succ n ih =>
    intro i w y5 y6 y7 h1 h3 h2 hL h6
    by_cases hs : xs.length < i + 6
    · exact stop i w y5 y6 y7 hs h2 hL
    · refine fi_step (pc' := 25) m_La_law rfl rfl ?_
      refine fi_step (pc' := 26) m_La_law rfl rfl ?_
      refine l_len (p := 27) m_La_law rfl rfl ?_
      refine s_bipush (p := 29) m_La_law rfl rfl rfl ?_
      refine s_isub (p := 30) m_La_law rfl rfl ?_
      refine s_ic_gt (p := 33) m_La_law rfl rfl (by omega) (by omega) (by omega) (by omega) (fun hbr => False.elim (by omega)) (fun hbr => ?_)
      refine lw_body hL (by omega) hx hfr hlo (fun w y5 y6 y7 hL' => ?_)
      refine s_iinc (p := 1415) m_La_law rfl rfl rfl ?_
      refine fi_step (pc' := 23) m_La_law rfl rfl ?_
      rw [show (i : Int) + 6 = ((i + 6 : Nat) : Int) by omega]
      sorry
end LAWL
