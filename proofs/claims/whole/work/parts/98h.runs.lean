/-! THE LAW: its loop, its start -/
theorem jI_and31 (a : Int) : jI a &&& jI 31 = jI (a % 32) := by
  apply Int32.toBitVec.inj
  apply BitVec.eq_of_toNat_eq
  simp only [jI, Int32.toBitVec_and, Int32.toBitVec_ofInt, BitVec.toNat_and, BitVec.toNat_ofInt]
  rw [show ((31 : Int) % ((2 ^ 32 : Nat) : Int)).toNat = 2 ^ 5 - 1 from by decide, Nat.and_two_pow_sub_one_eq_mod]
  omega
section LAWL
variable {xs : List Int32} {fr lo L Z i : Nat} {w : ax_W} {Q : Outcome → ax_W → Prop} {y5 y6 y7 : Option Value}
theorem l_len {z pc p l u1 u2 u3 : Nat} {ls : List (Option Value)} {st : List Value} {M : ax_M} (hM : ax_prog[z]? = some M) (he : M.1[pc]? = some (some (.arraylength, l, u1, u2, u3))) (hp : pc + l = p) (kk : fin xs fr lo z p ls (.int (jI (xs.length : Int)) :: st) w Q) : fin xs fr lo z pc ls (.retAddr 0 :: st) w Q := by
  subst hp
  have e : xs.length.toInt32 = jI (xs.length : Int) := Int32.ofInt_eq_ofNat.symm
  refine fi_hp hM he rfl rfl rfl (st' := .int (jI (xs.length : Int)) :: st) (w1 := w) ?_ kk
  simp [ax_hp, ax_alen, ax_ext, e]
set_option maxRecDepth 20000 in
theorem lw_body (hLK : LK w L Z) (hi : (i : Int) + 6 ≤ xs.length) (hx : xs.length ≤ 3072) (hfr : 12 ≤ fr) (hlo : 502 ≤ lo) (K : ∀ w y5 y6 y7, LK w (L + 1) (Z + 198) → fin xs fr lo 185 1412 [some (.retAddr 0), some (.ref 0), some (.ref 425), some (.ref 437), some (.int (jI (i : Int))), y5, y6, y7] [] w Q) : fin xs fr lo 185 33 [some (.retAddr 0), some (.ref 0), some (.ref 425), some (.ref 437), some (.int (jI (i : Int))), y5, y6, y7] [] w Q := by
  have hb := sc_b xs (i : Int)
  obtain ⟨x, hx0, hx1, hxe⟩ : ∃ x : Int, 0 ≤ x ∧ x < 32 ∧ sc xs (i : Int) % 32 = x := ⟨_, by omega, by omega, rfl⟩
  refine fi_step (pc' := 34) m_La_law rfl rfl ?_
  refine fi_step (pc' := 36) m_La_law rfl rfl ?_
  refine l_ld (p := 37) m_La_law rfl rfl (by omega) (by omega) (by omega) ?_
  refine s_bipush (p := 39) m_La_law rfl rfl rfl ?_
  refine fi_step (pc' := 40) m_La_law rfl rfl ?_
  show fin xs fr lo 185 40 [some (.retAddr 0), some (.ref 0), some (.ref 425), some (.ref 437), some (.int (jI (i : Int))), y5, y6, y7] [.int (jI (sc xs (i : Int)) &&& jI 31)] w Q
  rw [jI_and31, hxe]
  have hcs : x = 0 ∨ x = 1 ∨ x = 2 ∨ x = 3 ∨ x = 4 ∨ x = 5 ∨ x = 6 ∨ x = 7 ∨ x = 8 ∨ x = 9 ∨ x = 10 ∨ x = 11 ∨ x = 12 ∨ x = 13 ∨ x = 14 ∨ x = 15 ∨ x = 16 ∨ x = 17 ∨ x = 18 ∨ x = 19 ∨ x = 20 ∨ x = 21 ∨ x = 22 ∨ x = 23 ∨ x = 24 ∨ x = 25 ∨ x = 26 ∨ x = 27 ∨ x = 28 ∨ x = 29 ∨ x = 30 ∨ x = 31 := by omega
  have hmore := LK_more hLK (show L ≤ L + 1 by omega) (show Z ≤ Z + 198 by omega)
  rcases hcs with e | e | e | e | e | e | e | e | e | e | e | e | e | e | e | e | e | e | e | e | e | e | e | e | e | e | e | e | e | e | e | e <;> rw [e]
  · exact fi_step (pc' := 132) m_La_law rfl rfl (lw_make hLK hi hx hfr hlo K)
  · exact fi_step (pc' := 192) m_La_law rfl rfl (lw_put hLK hi hx hfr hlo K)
  · exact fi_step (pc' := 296) m_La_law rfl rfl (lw_at hLK hi hx hfr hlo K)
  · exact fi_step (pc' := 375) m_La_law rfl rfl (lw_size hLK hi hx hfr hlo K)
  · exact fi_step (pc' := 412) m_La_law rfl rfl (lw_combine hLK hi hx hfr hlo K)
  · exact fi_step (pc' := 516) m_La_law rfl rfl (lw_multiply hLK hi hx hfr hlo K)
  · exact fi_step (pc' := 596) m_La_law rfl rfl (lw_turn hLK hi hx hfr hlo K)
  · exact fi_step (pc' := 644) m_La_law rfl rfl (lw_rank hLK hi hx hfr hlo K)
  · exact fi_step (pc' := 700) m_La_law rfl rfl (lw_hermite hLK hi hx hfr hlo K)
  · exact fi_step (pc' := 768) m_La_law rfl rfl (lw_kernel hLK hi hx hfr hlo K)
  · exact fi_step (pc' := 836) m_La_law rfl rfl (lw_solve hLK hi hx hfr hlo K)
  · exact fi_step (pc' := 916) m_La_law rfl rfl (lw_determinant hLK hi hx hfr hlo K)
  · exact fi_step (pc' := 972) m_La_law rfl rfl (lw_divisor hLK hi hx hfr hlo K)
  · exact fi_step (pc' := 1040) m_La_law rfl rfl (lw_factor hLK hi hx hfr hlo K)
  · exact fi_step (pc' := 1108) m_La_law rfl rfl (lw_inverse hLK hi hx hfr hlo K)
  · exact fi_step (pc' := 1188) m_La_law rfl rfl (lw_characteristic hLK hi hx hfr hlo K)
  · exact fi_step (pc' := 1256) m_La_law rfl rfl (lw_character hLK hi hx hfr hlo K)
  · exact fi_step (pc' := 1281) m_La_law rfl rfl (lw_same hLK hi hx hfr hlo K)
  · exact fi_step (pc' := 1356) m_La_law rfl rfl (lw_check hLK hi hx hfr hlo K)
  all_goals exact fi_step (pc' := 1412) m_La_law rfl rfl (K _ _ _ _ hmore)
set_option maxRecDepth 20000 in
theorem lw_loop (hx : xs.length ≤ 3072) (hfr : 12 ≤ fr) (hlo : 502 ≤ lo) : ∀ (n i : Nat) (w : ax_W) (y5 y6 y7 : Option Value), xs.length < i + 6 * n + 6 → i ≤ xs.length → LK w (438 + i / 6) (1616538 + 198 * (i / 6)) → i % 6 = 0 →
    fin xs fr lo 185 23 [some (.retAddr 0), some (.ref 0), some (.ref 425), some (.ref 437), some (.int (jI (i : Int))), y5, y6, y7] [] w (fun o w' => o = .returned (some (.int (jI 1))) ∧ LK w' (438 + 512) (1616538 + 198 * 512)) := by
  have stop : ∀ (i : Nat) (w : ax_W) (y5 y6 y7 : Option Value), xs.length < i + 6 → i ≤ xs.length → LK w (438 + i / 6) (1616538 + 198 * (i / 6)) →
      fin xs fr lo 185 23 [some (.retAddr 0), some (.ref 0), some (.ref 425), some (.ref 437), some (.int (jI (i : Int))), y5, y6, y7] [] w (fun o w' => o = .returned (some (.int (jI 1))) ∧ LK w' (438 + 512) (1616538 + 198 * 512)) := by
    intro i w y5 y6 y7 h1 h2 hL
    refine fi_step (pc' := 25) m_La_law rfl rfl ?_
    refine fi_step (pc' := 26) m_La_law rfl rfl ?_
    refine l_len (p := 27) m_La_law rfl rfl ?_
    refine s_bipush (p := 29) m_La_law rfl rfl rfl ?_
    refine s_isub (p := 30) m_La_law rfl rfl ?_
    refine s_ic_gt (p := 33) m_La_law rfl rfl (by omega) (by omega) (by omega) (by omega) (fun hbr => ?_) (fun hbr => False.elim (by omega))
    refine fi_step (pc' := 1419) m_La_law rfl rfl ?_
    exact fi_ret m_La_law rfl (v := some (.int (jI 1))) rfl ⟨rfl, LK_more hL (by omega) (by omega)⟩
  intro n
  induction n with
  | zero =>
    intro i w y5 y6 y7 h1 h2 hL _
    exact stop i w y5 y6 y7 (by omega) h2 hL
  | succ n ih =>
    intro i w y5 y6 y7 h1 h2 hL h6
    by_cases hs : xs.length < i + 6
    · exact stop i w y5 y6 y7 hs h2 hL
    · refine fi_step (pc' := 25) m_La_law rfl rfl ?_
      refine fi_step (pc' := 26) m_La_law rfl rfl ?_
      refine l_len (p := 27) m_La_law rfl rfl ?_
      refine s_bipush (p := 29) m_La_law rfl rfl rfl ?_
      refine s_isub (p := 30) m_La_law rfl rfl ?_
      refine s_ic_gt (p := 33) m_La_law rfl rfl (by omega) (by omega) (by omega) (by omega) (fun hbr => False.elim (by omega)) (fun hbr => ?_)
      refine lw_body hL (by omega) hx hfr hlo (fun w y5 y6 y7 hL' => ?_)
      refine s_iinc (p := 1415) m_La_law rfl rfl rfl ?_
      refine fi_step (pc' := 23) m_La_law rfl rfl ?_
      rw [show (i : Int) + 6 = ((i + 6 : Nat) : Int) by omega]
      exact ih (i + 6) w _ _ _ (by omega) (by omega) (LK_more hL' (by omega) (by omega)) (by omega)
end LAWL
/-! the start -/
theorem clsA_keep {w w' : ax_W} (h : clsA w) (k : ∀ j, j < 425 → w'[j]? = w[j]?) : clsA w' := by
  obtain ⟨h0, h1, hm, ⟨hp, hp'⟩, hd, ⟨g1, g2, g3⟩, ⟨s1, s2, s3, s4⟩, hw, o1, o2⟩ := h
  refine ⟨(k _ (by omega)).trans h0, (k _ (by omega)).trans h1, fun m hm' => ⟨(k _ (by omega)).trans (hm m hm').1, (k _ (by omega)).trans (hm m hm').2⟩, ⟨(k _ (by omega)).trans hp, (k _ (by omega)).trans hp'⟩, (k _ (by omega)).trans hd, ⟨(k _ (by omega)).trans g1, (k _ (by omega)).trans g2, (k _ (by omega)).trans g3⟩, ⟨(k _ (by omega)).trans s1, (k _ (by omega)).trans s2, fun j hj => ⟨(k _ (by omega)).trans (s3 j hj).1, (k _ (by omega)).trans (s3 j hj).2⟩, (k _ (by omega)).trans s4⟩, fun c hc e1 e2 => ?_, oneA_keep o1 (k _ (by omega)) (k _ (by omega)), oneA_keep o2 (k _ (by omega)) (k _ (by omega))⟩
  have := isWh_lt hc
  exact whA_keep (hw c hc e1 e2) (k _ (by omega)) (k _ (by omega))
def mo1 : mo_S := fun a => if a = 4 then rf cl0 4 else if a = 5 then rf cl0 5 else if a = 6 then rf cl0 6 else fun _ => 0
theorem mc_mo1 (k : Nat) (hk : k < 12) : mc mo1 k = mc mo0 k := by
  have : k = 0 ∨ k = 1 ∨ k = 2 ∨ k = 3 ∨ k = 4 ∨ k = 5 ∨ k = 6 ∨ k = 7 ∨ k = 8 ∨ k = 9 ∨ k = 10 ∨ k = 11 := by omega
  rcases this with e | e | e | e | e | e | e | e | e | e | e | e <;> subst e
  · rfl
  · rfl
  · rfl
  · rfl
  · show (21, aL 216 (rf cl0 4)) = (21, aL 216 (fun _ => 0))
    rw [aL_ext (g := fun _ => 0) (fun x x0 x1 => by rw [rf_4 cl0 (by omega) (by omega)]; rfl)]
  · show (20, aI 6 (rf cl0 5)) = (20, aI 6 (fun _ => 1))
    rw [aI_ext (g := fun _ => 1) (fun x x0 x1 => by rw [rf_5 cl0 (by omega) (by omega)]; rfl)]
  · show (20, aI 6 (rf cl0 6)) = (20, aI 6 (fun _ => 1))
    rw [aI_ext (g := fun _ => 1) (fun x x0 x1 => by rw [rf_6 cl0 (by omega) (by omega)]; rfl)]
  · rfl
  · rfl
  · rfl
  · rfl
  · rfl
theorem ax_runs : ∀ xs : List Int32, xs.length ≤ 3072 → ax_Good xs := by
  intro xs hx
  have go : fin xs 12 502 185 0 (ax_ent [.retAddr 0] 8) [] [] (fun o w' => o = .returned (some (.int (jI 1))) ∧ LK w' (438 + 512) (1616538 + 198 * 512)) := by
    refine k_new (p := 3) m_La_law rfl rfl rfl (fun w1 hE => ?_)
    obtain ⟨l1, _, n1, z1⟩ := hE
    rw [List.length_nil] at l1 n1 ⊢
    have z1' : ax_sz w1 = 9 := z1
    refine fi_step (pc' := 4) m_La_law rfl rfl ?_
    refine g_1 (p := 7) m_La_law rfl inv_p (by decide) m_De_init rfl rfl (by omega) (by omega) (Nat.le_of_ble_eq_true rfl) (Nat.le_of_ble_eq_true rfl) (by simp [ax_rcv, n1]) (i_de n1 l1 (by omega) (by omega)) (fun v w hP => ?_)
    obtain ⟨rfl, l2, hcls, z2⟩ := hP
    refine fi_step (pc' := 8) m_La_law rfl rfl ?_
    refine k_new (p := 11) m_La_law rfl rfl rfl (fun w3 hE => ?_)
    obtain ⟨l3, a3, n3, z3⟩ := hE
    have z3' : ax_sz w3 = ax_sz w + 17 := z3
    rw [l2] at l3 n3 a3 ⊢
    refine fi_step (pc' := 12) m_La_law rfl rfl ?_
    refine g_1 (p := 15) m_La_law rfl inv_p (by decide) m_Mo_init rfl rfl (by omega) (by omega) (Nat.le_of_ble_eq_true rfl) (Nat.le_of_ble_eq_true rfl) (by simp [ax_rcv, n3]) (i_mo n3 l3 (by omega) (by omega)) (fun v w hP => ?_)
    obtain ⟨rfl, l4, a4, hcell, z4⟩ := hP
    refine fi_step (pc' := 16) m_La_law rfl rfl ?_
    refine fi_step (pc' := 17) m_La_law rfl rfl ?_
    refine k_newa (n := 1) (p := 19) m_La_law rfl rfl rfl (by omega) (by omega) (fun w5 hE => ?_)
    obtain ⟨l5, a5, n5, z5⟩ := hE
    have z5' : ax_sz w5 = ax_sz _ + 1 := z5
    rw [l4] at l5 n5 a5 ⊢
    refine fi_step (pc' := 20) m_La_law rfl rfl ?_
    refine fi_step (pc' := 21) m_La_law rfl rfl ?_
    refine fi_step (pc' := 23) m_La_law rfl rfl ?_
    have hcl5 : clsA w5 := clsA_keep hcls (fun j hj => ((a5 j (by omega)).trans (a4 j hj)).trans (a3 j (by omega)))
    obtain ⟨v, hC, hok⟩ := cls_start hcl5 (by omega)
    have hsz : 33 * ax_sz w5 = 1616538 := by omega
    rw [l5, hsz] at hC
    have hLK : LK w5 (438 + 0 / 6) (1616538 + 198 * (0 / 6)) := by
      refine ⟨w5, cl0, v, mo1, fun _ => 0, 0, hC, hok, ⟨rfl, fun _ _ => rfl, fun k hk => ?_⟩, n5, Bg_congr mo0_Bg rfl rfl rfl, by decide, rfl⟩
      rw [mc_mo1 k hk, a5 _ (by omega)]
      exact hcell k hk
    exact lw_loop hx (Nat.le_refl _) (Nat.le_refl _) 512 0 w5 _ _ _ (by omega) (by omega) hLK rfl
  obtain ⟨o, w', ⟨f, hf⟩, rfl, w0, s, v, sr, r, o, hC, _⟩ := go
  have hroom := CW_room hC
  exact ⟨f, w', hf, by omega, by omega⟩
