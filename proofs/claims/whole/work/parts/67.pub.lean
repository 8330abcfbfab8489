/-! THE REFERENCE: inverse -/
theorem sayS_len {v : Int} (h : v.natAbs < 10 ^ 120) : (sayS v).length ≤ 121 := by
  have := dd_len (k := 119) h
  unfold sayS decS
  rw [List.length_append, List.length_map, List.length_reverse]
  split
  · rw [List.length_singleton]; omega
  · rw [List.length_nil]; omega
/-- a fraction, as it is printed -/
def fracS (b : Int) (a d : Int) : List Int := sayS (if b = 1 then -((a.natAbs / Int.gcd d a : Nat) : Int) else ((a.natAbs / Int.gcd d a : Nat) : Int)) ++ (if d.natAbs / Int.gcd d a = 1 then [] else 47 :: decS (d.natAbs / Int.gcd d a))
theorem pow_lt64 {k : Nat} (hk : k < 6) : (1 : Int) ≤ 2 ^ k ∧ (2 : Int) ^ k < 64 := by
  have : ∀ k : Fin 6, (1 : Int) ≤ 2 ^ (k : Nat) ∧ (2 : Int) ^ (k : Nat) < 64 := by decide
  exact this ⟨k, hk⟩
section PUB4
variable {xs : List Int32} {fr lo : Nat} {w0 : ax_W} {Q : Outcome → ax_W → Prop}
theorem inv_tail {b a d t : Int} {l1 l2 l3 l4 y6 y7 : Option Value} {S s : mo_S} {w : ax_W} {r : Int → Int} (hfr : 4 ≤ fr) (hlo : 180 ≤ lo) (hw : RW w0 w s) (hB : Bg s r) (hK : kq S s) (ha : r 273 = a) (hd : r 274 = d) (hd0 : d ≠ 0) (hb : b = 0 ∨ b = 1) (hba : b = 1 → a ≠ 0) (ab : (a.natAbs : Int) ≤ MBND) (db : (d.natAbs : Int) ≤ MBND) :
    fin xs fr lo 179 217 [some (.ref 425), l1, l2, l3, l4, some (.int (jI t)), y6, y7] [.int (jI b)] w (Ret fun u w' => pub S w0 w' 0 (some (fracS b a d)) ∧ u = some (.int (jI ((fracS b a d).length : Nat)))) := by
  have hg0 : Int.gcd d a ≠ 0 := fun e => hd0 (Int.gcd_eq_zero_iff.mp e).1
  have hM0 : (0 : Int) ≤ MBND := by decide
  refine fi_step (pc' := 219) m_Mo_inverse rfl rfl ?_
  refine fi_step (pc' := 220) m_Mo_inverse rfl rfl ?_
  refine r_get (p := 223) m_Mo_inverse rfl rfl (by assumption) rfl ?_
  refine s_sipush (p := 226) m_Mo_inverse rfl rfl rfl ?_
  refine fi_step (pc' := 227) m_Mo_inverse rfl rfl ?_
  refine r_stB (p := 228) m_Mo_inverse rfl rfl (by assumption) (by decide) (fun _ => rfl) (by decide) (by omega) (by omega) (by omega) (by omega) (fun w hw => ?_)
  refine fi_step (pc' := 229) m_Mo_inverse rfl rfl ?_
  refine r_get (p := 232) m_Mo_inverse rfl rfl (by assumption) rfl ?_
  refine s_sipush (p := 235) m_Mo_inverse rfl rfl rfl ?_
  refine fi_step (pc' := 236) m_Mo_inverse rfl rfl ?_
  refine r_stB (p := 237) m_Mo_inverse rfl rfl (by assumption) (by decide) (fun _ => rfl) (by decide) (by omega) (by omega) (by omega) (by omega) (fun w hw => ?_)
  refine fi_step (pc' := 238) m_Mo_inverse rfl rfl ?_
  refine s_sipush (p := 241) m_Mo_inverse rfl rfl rfl ?_
  refine s_sipush (p := 244) m_Mo_inverse rfl rfl rfl ?_
  have B2 := Bg_sign hB (k := 273) (b := 0) (by decide) (by decide) (Or.inl rfl)
  have B3 := Bg_sign B2 (k := 274) (b := 0) (by decide) (by decide) (Or.inl rfl)
  have K3 := kq_oth (kq_oth hK (oth_up3 s 273 0)) (oth_up3 _ 274 0)
  obtain ⟨r3, B3, a3, d3⟩ : ∃ r3, Bg (up (up s 3 273 0) 3 274 0) r3 ∧ r3 273 = a.natAbs ∧ r3 274 = d.natAbs := ⟨_, B3, by simp [up1, ha], by simp [up1, hd]⟩
  refine g_3 (p := 247) m_Mo_inverse rfl inv_v (by decide) m_Mo_bigCopy rfl rfl (by omega) (by omega) (Nat.le_of_ble_eq_true rfl) (Nat.le_of_ble_eq_true rfl) (RW_rcv hw _) (c_bigCopy hw B3 (by omega) (by omega) (by omega) (by omega) (by omega)) (fun v w hP => ?_)
  obtain ⟨rfl, s4, hw, o4, B4⟩ := hP
  obtain ⟨r4, B4, a4, d4, g4⟩ : ∃ r4, Bg s4 r4 ∧ r4 273 = a.natAbs ∧ r4 274 = d.natAbs ∧ r4 276 = d.natAbs := ⟨_, B4, by simp [up1, a3], by simp [up1, d3], by simp [up1, d3]⟩
  have K4 := kq_oth K3 o4
  refine fi_step (pc' := 248) m_Mo_inverse rfl rfl ?_
  refine s_sipush (p := 251) m_Mo_inverse rfl rfl rfl ?_
  refine s_sipush (p := 254) m_Mo_inverse rfl rfl rfl ?_
  refine g_3 (p := 257) m_Mo_inverse rfl inv_v (by decide) m_Mo_divide rfl rfl (by omega) (by omega) (Nat.le_of_ble_eq_true rfl) (Nat.le_of_ble_eq_true rfl) (RW_rcv hw _) (c_divide (by omega) (by omega) hw B4 (by omega) (by omega) (by unfold tmpK; omega) (by omega) (by omega) (by omega)) (fun v w hP => ?_)
  obtain ⟨rfl, s5, r5, hw, o5, B5, g5, k5⟩ := hP
  have K5 := kq_oth K4 o5
  have a5 : r5 273 = a.natAbs := by rw [k5 273 (by omega) (by unfold tmpK; omega), a4]
  have d5 : r5 274 = d.natAbs := by rw [k5 274 (by omega) (by unfold tmpK; omega), d4]
  have g5 : r5 276 = (Int.gcd d a : Nat) := by rw [g5, g4, a4]; simp [Int.gcd]
  refine fi_step (pc' := 258) m_Mo_inverse rfl rfl ?_
  refine s_sipush (p := 261) m_Mo_inverse rfl rfl rfl ?_
  refine s_sipush (p := 264) m_Mo_inverse rfl rfl rfl ?_
  refine g_3 (p := 267) m_Mo_inverse rfl inv_v (by decide) m_Mo_bigCopy rfl rfl (by omega) (by omega) (Nat.le_of_ble_eq_true rfl) (Nat.le_of_ble_eq_true rfl) (RW_rcv hw _) (c_bigCopy hw B5 (by omega) (by omega) (by omega) (by omega) (by omega)) (fun v w hP => ?_)
  obtain ⟨rfl, s6, hw, o6, B6⟩ := hP
  have K6 := kq_oth K5 o6
  obtain ⟨r6, B6, a6, d6, g6, t6⟩ : ∃ r6, Bg s6 r6 ∧ r6 273 = a.natAbs ∧ r6 274 = d.natAbs ∧ r6 276 = (Int.gcd d a : Nat) ∧ r6 269 = (Int.gcd d a : Nat) := ⟨_, B6, by simp [up1, a5], by simp [up1, d5], by simp [up1, g5], by simp [up1, g5]⟩
  refine fi_step (pc' := 268) m_Mo_inverse rfl rfl ?_
  refine s_sipush (p := 271) m_Mo_inverse rfl rfl rfl ?_
  refine s_sipush (p := 274) m_Mo_inverse rfl rfl rfl ?_
  refine s_sipush (p := 277) m_Mo_inverse rfl rfl rfl ?_
  refine g_4 (p := 280) m_Mo_inverse rfl inv_v (by decide) m_Mo_bigDivide rfl rfl (by omega) (by omega) (Nat.le_of_ble_eq_true rfl) (Nat.le_of_ble_eq_true rfl) (RW_rcv hw _) (c_bigDivide (by omega) (by omega) hw B6 (by omega) (by omega) (by omega) (by omega) (by omega) (by omega) (by omega) (by omega) (by omega) (by omega)) (fun v w hP => ?_)
  obtain ⟨rfl, s7, hw, o7, B7⟩ := hP
  have K7 := kq_oth K6 o7
  obtain ⟨r7, B7, q7, d7, g7⟩ : ∃ r7, Bg s7 r7 ∧ r7 272 = (a.natAbs / Int.gcd d a : Nat) ∧ r7 274 = d.natAbs ∧ r7 276 = (Int.gcd d a : Nat) := ⟨_, B7, by simp [up1, a6, t6], by simp [up1, d6], by simp [up1, g6]⟩
  refine fi_step (pc' := 281) m_Mo_inverse rfl rfl ?_
  refine s_sipush (p := 284) m_Mo_inverse rfl rfl rfl ?_
  refine s_sipush (p := 287) m_Mo_inverse rfl rfl rfl ?_
  refine g_3 (p := 290) m_Mo_inverse rfl inv_v (by decide) m_Mo_bigCopy rfl rfl (by omega) (by omega) (Nat.le_of_ble_eq_true rfl) (Nat.le_of_ble_eq_true rfl) (RW_rcv hw _) (c_bigCopy hw B7 (by omega) (by omega) (by omega) (by omega) (by omega)) (fun v w hP => ?_)
  obtain ⟨rfl, s8, hw, o8, B8⟩ := hP
  have K8 := kq_oth K7 o8
  obtain ⟨r8, B8, a8, d8, g8⟩ : ∃ r8, Bg s8 r8 ∧ r8 273 = (a.natAbs / Int.gcd d a : Nat) ∧ r8 274 = d.natAbs ∧ r8 276 = (Int.gcd d a : Nat) := ⟨_, B8, by simp [up1, q7], by simp [up1, d7], by simp [up1, g7]⟩
  refine fi_step (pc' := 291) m_Mo_inverse rfl rfl ?_
  refine s_sipush (p := 294) m_Mo_inverse rfl rfl rfl ?_
  refine s_sipush (p := 297) m_Mo_inverse rfl rfl rfl ?_
  refine g_3 (p := 300) m_Mo_inverse rfl inv_v (by decide) m_Mo_bigCopy rfl rfl (by omega) (by omega) (Nat.le_of_ble_eq_true rfl) (Nat.le_of_ble_eq_true rfl) (RW_rcv hw _) (c_bigCopy hw B8 (by omega) (by omega) (by omega) (by omega) (by omega)) (fun v w hP => ?_)
  obtain ⟨rfl, s9, hw, o9, B9⟩ := hP
  have K9 := kq_oth K8 o9
  obtain ⟨r9, B9, a9, d9, t9⟩ : ∃ r9, Bg s9 r9 ∧ r9 273 = (a.natAbs / Int.gcd d a : Nat) ∧ r9 274 = d.natAbs ∧ r9 269 = (Int.gcd d a : Nat) := ⟨_, B9, by simp [up1, a8], by simp [up1, d8], by simp [up1, g8]⟩
  refine fi_step (pc' := 301) m_Mo_inverse rfl rfl ?_
  refine s_sipush (p := 304) m_Mo_inverse rfl rfl rfl ?_
  refine s_sipush (p := 307) m_Mo_inverse rfl rfl rfl ?_
  refine s_sipush (p := 310) m_Mo_inverse rfl rfl rfl ?_
  refine g_4 (p := 313) m_Mo_inverse rfl inv_v (by decide) m_Mo_bigDivide rfl rfl (by omega) (by omega) (Nat.le_of_ble_eq_true rfl) (Nat.le_of_ble_eq_true rfl) (RW_rcv hw _) (c_bigDivide (by omega) (by omega) hw B9 (by omega) (by omega) (by omega) (by omega) (by omega) (by omega) (by omega) (by omega) (by omega) (by omega)) (fun v w hP => ?_)
  obtain ⟨rfl, s10, hw, o10, B10⟩ := hP
  have K10 := kq_oth K9 o10
  obtain ⟨r10, B10, a10, q10⟩ : ∃ r10, Bg s10 r10 ∧ r10 273 = (a.natAbs / Int.gcd d a : Nat) ∧ r10 272 = (d.natAbs / Int.gcd d a : Nat) := ⟨_, B10, by simp [up1, a9], by simp [up1, d9, t9]⟩
  refine fi_step (pc' := 314) m_Mo_inverse rfl rfl ?_
  refine s_sipush (p := 317) m_Mo_inverse rfl rfl rfl ?_
  refine s_sipush (p := 320) m_Mo_inverse rfl rfl rfl ?_
  refine g_3 (p := 323) m_Mo_inverse rfl inv_v (by decide) m_Mo_bigCopy rfl rfl (by omega) (by omega) (Nat.le_of_ble_eq_true rfl) (Nat.le_of_ble_eq_true rfl) (RW_rcv hw _) (c_bigCopy hw B10 (by omega) (by omega) (by omega) (by omega) (by omega)) (fun v w hP => ?_)
  obtain ⟨rfl, s11, hw, o11, B11⟩ := hP
  have K11 := kq_oth K10 o11
  obtain ⟨r11, B11, a11, d11⟩ : ∃ r11, Bg s11 r11 ∧ r11 273 = (a.natAbs / Int.gcd d a : Nat) ∧ r11 274 = (d.natAbs / Int.gcd d a : Nat) := ⟨_, B11, by simp [up1, a10], by simp [up1, q10]⟩
  refine fi_step (pc' := 324) m_Mo_inverse rfl rfl ?_
  refine r_get (p := 327) m_Mo_inverse rfl rfl (by assumption) rfl ?_
  refine s_sipush (p := 330) m_Mo_inverse rfl rfl rfl ?_
  refine fi_step (pc' := 332) m_Mo_inverse rfl rfl ?_
  refine r_stB (p := 333) m_Mo_inverse rfl rfl (by assumption) (by decide) (fun _ => rfl) (by decide) (by omega) (by omega) (by omega) (by omega) (fun w hw => ?_)
  refine fi_step (pc' := 334) m_Mo_inverse rfl rfl ?_
  refine s_sipush (p := 337) m_Mo_inverse rfl rfl rfl ?_
  have B12 := Bg_sign B11 (k := 273) (b := b) (by decide) (by decide) hb
  have K12 := kq_oth K11 (oth_up3 s11 273 b)
  obtain ⟨r12, B12, a12, d12⟩ : ∃ r12, Bg (up s11 3 273 b) r12 ∧ r12 273 = (if b = 1 then -((a.natAbs / Int.gcd d a : Nat) : Int) else ((a.natAbs / Int.gcd d a : Nat) : Int)) ∧ r12 274 = (d.natAbs / Int.gcd d a : Nat) := ⟨_, B12, by rw [up1_same, a11]; rfl, by simp [up1, d11]⟩
  have qa : a.natAbs / Int.gcd d a ≤ a.natAbs := Nat.div_le_self _ _
  have qd : d.natAbs / Int.gcd d a ≤ d.natAbs := Nat.div_le_self _ _
  have hab : (r12 273).natAbs < 10 ^ 120 := by
    rw [a12]
    have h0 : ((a.natAbs / Int.gcd d a : Nat) : Int) ≤ MBND := by omega
    generalize a.natAbs / Int.gcd d a = A at h0 ⊢
    refine lt_120 ?_
    split <;> omega
  have hdb : (r12 274).natAbs < 10 ^ 120 := by
    rw [d12]
    have h0 : ((d.natAbs / Int.gcd d a : Nat) : Int) ≤ MBND := by omega
    generalize d.natAbs / Int.gcd d a = A at h0 ⊢
    refine lt_120 ?_
    omega
  have hsl := sayS_len hab
  refine g_2 (p := 340) m_Mo_inverse rfl inv_v (by decide) m_Mo_say rfl rfl (by omega) (by omega) (Nat.le_of_ble_eq_true rfl) (Nat.le_of_ble_eq_true rfl) (RW_rcv hw _) (c_say (by omega) (by omega) hw B12 (by omega) (by omega) (by omega) hab) (fun v w hP => ?_)
  obtain ⟨s13, r13, hw, k13, B13, v13, p13, rfl⟩ := hP
  have d13 : r13 274 = (d.natAbs / Int.gcd d a : Nat) := by rw [v13 274 (by decide), d12]
  rw [a12] at p13 hsl ⊢
  refine fi_step (pc' := 342) m_Mo_inverse rfl rfl ?_
  refine fi_step (pc' := 343) m_Mo_inverse rfl rfl ?_
  refine s_sipush (p := 346) m_Mo_inverse rfl rfl rfl ?_
  refine c_2 (p := 349) m_Mo_inverse rfl inv_v (by decide) m_Mo_bigIsOne rfl rfl (by omega) (by omega) (Nat.le_of_ble_eq_true rfl) (Nat.le_of_ble_eq_true rfl) (RW_rcv hw _) (c_bigIsOne hw B13 (by omega) (by omega)) ?_
  rw [d13]
  by_cases h1 : d.natAbs / Int.gcd d a = 1
  · have hone : (if (((d.natAbs / Int.gcd d a : Nat) : Int)).natAbs = 1 then (1 : Int) else 0) = 1 := if_pos (by rw [Int.natAbs_natCast]; exact h1)
    rw [hone]
    have e : fracS b a d = sayS (if b = 1 then -((a.natAbs / Int.gcd d a : Nat) : Int) else ((a.natAbs / Int.gcd d a : Nat) : Int)) := by unfold fracS; rw [if_pos h1, List.append_nil]
    rw [e]
    refine s_if_ne (p := 352) m_Mo_inverse rfl rfl (by omega) (by omega) (fun hbr => ?_) (fun hbr => False.elim (by omega))
    refine fi_step (pc' := 388) m_Mo_inverse rfl rfl ?_
    refine p_reti m_Mo_inverse rfl rfl ?_
    exact ⟨kq_say K12 k13 hw B13 p13, rfl⟩
  · have hone : (if (((d.natAbs / Int.gcd d a : Nat) : Int)).natAbs = 1 then (1 : Int) else 0) = 0 := if_neg (by rw [Int.natAbs_natCast]; exact h1)
    rw [hone]
    have pe := p13.1
    refine s_if_ne (p := 352) m_Mo_inverse rfl rfl (by omega) (by omega) (fun hbr => False.elim (by omega)) (fun hbr => ?_)
    refine fi_step (pc' := 353) m_Mo_inverse rfl rfl ?_
    refine r_get (p := 356) m_Mo_inverse rfl rfl (by assumption) rfl ?_
    refine fi_step (pc' := 357) m_Mo_inverse rfl rfl ?_
    refine r_get (p := 360) m_Mo_inverse rfl rfl (by assumption) rfl ?_
    refine s_bipush (p := 362) m_Mo_inverse rfl rfl rfl ?_
    refine r_stI (p := 363) m_Mo_inverse rfl rfl (by assumption) (by decide) (fun _ => rfl) (by decide) (by omega) (by omega) (fun w hw => ?_)
    refine fi_step (pc' := 364) m_Mo_inverse rfl rfl ?_
    refine fi_step (pc' := 365) m_Mo_inverse rfl rfl ?_
    refine r_get (p := 368) m_Mo_inverse rfl rfl (by assumption) rfl ?_
    refine fi_step (pc' := 369) m_Mo_inverse rfl rfl ?_
    refine s_iadd (p := 370) m_Mo_inverse rfl rfl ?_
    refine r_put (p := 373) 5 m_Mo_inverse rfl rfl (by assumption) (r_put5 _ _) rfl (fun w hw => ?_)
    refine fi_step (pc' := 374) m_Mo_inverse rfl rfl ?_
    refine s_sipush (p := 377) m_Mo_inverse rfl rfl rfl ?_
    have p14 : prn (up (up s13 10 (s13 0 5) 47) 0 5 (s13 0 5 + 1)) (sayS (if b = 1 then -((a.natAbs / Int.gcd d a : Nat) : Int) else ((a.natAbs / Int.gcd d a : Nat) : Int)) ++ [47]) := by
      refine ⟨by rw [up_same, up1_same, pe, List.length_append]; simp, ?_⟩
      rw [List.length_append, List.length_singleton, seg_snoc, up_ne _ (by decide), up_same, Int.zero_add, pe, up1_same]
      congr 1
      rw [seg_congr (g := s13 10) (fun k k0 k1 => up1_ne _ (by omega) _)]
      exact p13.2
    have B14 : Bg (up (up s13 10 (s13 0 5) 47) 0 5 (s13 0 5 + 1)) r13 := Bg_congr B13 (by rw [up_ne _ (by decide), up_ne _ (by decide)]) (by rw [up_ne _ (by decide), up_ne _ (by decide)]) (by rw [up_ne _ (by decide), up_ne _ (by decide)])
    have k14 : keepS s13 (up (up s13 10 (s13 0 5) 47) 0 5 (s13 0 5 + 1)) := ⟨fun a h0 h1 h2 h3 h10 h11 => by rw [up_ne _ h0, up_ne _ h10], fun i hi => by rw [up_same, up1_ne _ hi, up_ne _ (by decide)]⟩
    refine g_2 (p := 380) m_Mo_inverse rfl inv_v (by decide) m_Mo_sayMore rfl rfl (by omega) (by omega) (Nat.le_of_ble_eq_true rfl) (Nat.le_of_ble_eq_true rfl) (RW_rcv hw _) (c_sayMore (by omega) (by omega) hw B14 (by omega) (by omega) (by omega) p14 (by rw [List.length_append, List.length_singleton]; omega) (by rw [d13, ← d12]; exact hdb)) (fun v w hP => ?_)
    obtain ⟨rfl, s15, r15, hw, k15, B15, _, p15⟩ := hP
    have e : sayS (if b = 1 then -((a.natAbs / Int.gcd d a : Nat) : Int) else ((a.natAbs / Int.gcd d a : Nat) : Int)) ++ [47] ++ decS (r13 274).natAbs = fracS b a d := by
      unfold fracS; rw [if_neg h1, d13, Int.natAbs_natCast, List.append_assoc]; rfl
    rw [e] at p15
    have pe15 := p15.1
    refine fi_step (pc' := 381) m_Mo_inverse rfl rfl ?_
    refine r_get (p := 384) m_Mo_inverse rfl rfl (by assumption) rfl ?_
    refine fi_step (pc' := 386) m_Mo_inverse rfl rfl ?_
    refine fi_step (pc' := 388) m_Mo_inverse rfl rfl ?_
    refine p_reti m_Mo_inverse rfl rfl ?_
    exact ⟨kq_say K12 (keepS_trans (keepS_trans k13 k14) k15) hw B15 p15, by rw [pe15]⟩
end PUB4
