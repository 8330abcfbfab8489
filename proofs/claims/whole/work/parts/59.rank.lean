/-! THE REFERENCE: common divisors of minors, the rank -/
def oth8 (s s' : mo_S) : Prop := ∀ a, a ≠ 1 → a ≠ 2 → a ≠ 3 → a ≠ 8 → s' a = s a
theorem oth8_refl (s : mo_S) : oth8 s s := fun _ _ _ _ _ => rfl
theorem oth8_trans {s s' s'' : mo_S} (h : oth8 s s') (h' : oth8 s' s'') : oth8 s s'' := fun a h1 h2 h3 h8 => (h' a h1 h2 h3 h8).trans (h a h1 h2 h3 h8)
theorem oth8_oth {s s' : mo_S} (h : oth s s') : oth8 s s' := fun a h1 h2 h3 _ => h a h1 h2 h3
/-- the minor of these rows and columns (both sets of bits) -/
def mm (g : Int → Int) (y x : Int) : Int := detC ((els 6 y).map (fun i j => g (12 * i + j))) (els 6 x)
/-- the common divisor of all minors of k rows and columns -/
def isD (g : Int → Int) (R C k : Nat) (G : Int) : Prop := 0 ≤ G ∧ ∀ d : Int, d ∣ G ↔ ∀ x y, 0 ≤ x → x < 2 ^ C → (els 6 x).length = k → 0 ≤ y → y < 2 ^ R → (els 6 y).length = k → d ∣ mm g y x
theorem isD_unique {g : Int → Int} {R C k : Nat} {G H : Int} (h : isD g R C k G) (h' : isD g R C k H) : G = H := by
  have a1 : G ∣ H := (h'.2 G).mpr ((h.2 G).mp (Int.dvd_refl G))
  have a2 : H ∣ G := (h.2 H).mpr ((h'.2 H).mp (Int.dvd_refl H))
  exact Int.dvd_antisymm h.1 h'.1 a1 a2
theorem isD_zero {g : Int → Int} {R C k : Nat} {G : Int} (h : isD g R C k G) : G = 0 ↔ ∀ x y, 0 ≤ x → x < 2 ^ C → (els 6 x).length = k → 0 ≤ y → y < 2 ^ R → (els 6 y).length = k → mm g y x = 0 := by
  constructor
  · intro e x y x0 x1 x2 y0 y1 y2
    subst e
    exact Int.zero_dvd.mp ((h.2 0).mp (Int.dvd_refl 0) x y x0 x1 x2 y0 y1 y2)
  · intro e
    exact Int.zero_dvd.mp ((h.2 0).mpr (fun x y x0 x1 x2 y0 y1 y2 => by rw [e x y x0 x1 x2 y0 y1 y2]; exact Int.dvd_refl 0))
section RK
variable {xs : List Int32} {fr lo : Nat} {w0 : ax_W} {Q : Outcome → ax_W → Prop}
theorem divOf_in {to x nn : Int} {k R : Nat} {S : mo_S} {V R0 : Int → Int} {A : Int → Prop} (hfr : 4 ≤ fr) (hlo : 150 ≤ lo) (hR : S 0 1 = R) (hR6 : R ≤ 6) (hk : k ≤ 6) (t0 : to = 273 ∨ to = 274)
    (K : ∀ w s r y, RW w0 w s → oth S s → Bg s r → 0 ≤ r to → (∀ d, d ∣ r to ↔ (A d ∧ ∀ y, 0 ≤ y → y < 2 ^ R → (els 6 y).length = k → d ∣ V y)) → (∀ j, j < 36 ∨ 100 ≤ j → j ≠ to → ¬ tmpK j → r j = R0 j) → fin xs fr lo 147 90 [some (.ref 425), some (.int (jI k)), some (.int (jI to)), some (.int (jI x)), some (.int (jI nn)), y] [] w Q) :
    ∀ (f : Nat) (y : Int) (w : ax_W) (s : mo_S) (r : Int → Int), 0 ≤ y → y ≤ 2 ^ R → 2 ^ R - y ≤ f → RW w0 w s → oth S s → Bg s r → (∀ y, 0 ≤ y → y < 2 ^ R → (els 6 y).length = k → r (36 + y) = V y) → 0 ≤ r to → (∀ d, d ∣ r to ↔ (A d ∧ ∀ y', 0 ≤ y' → y' < y → (els 6 y').length = k → d ∣ V y')) → (∀ j, j < 36 ∨ 100 ≤ j → j ≠ to → ¬ tmpK j → r j = R0 j) →
    fin xs fr lo 147 42 [some (.ref 425), some (.int (jI k)), some (.int (jI to)), some (.int (jI x)), some (.int (jI nn)), some (.int (jI y))] [] w Q := by
  have h64 := S_pow hR6
  have hRt : (S 0 1).toNat = R := by omega
  have htmp : ¬ tmpK to := by unfold tmpK; omega
  intro f
  induction f with
  | zero =>
    intro y w s r y0 y1 hf hw ho hB hV g0 hG hr
    have e2 : (2 : Int) ^ (s 0 1).toNat = 2 ^ R := by rw [ho 0 (by decide) (by decide) (by decide), hRt]
    have e1 : s 0 1 = R := by rw [ho 0 (by decide) (by decide) (by decide)]; exact hR
    refine fi_step (pc' := 44) m_Mo_divisorOf rfl rfl ?_
    refine fi_step (pc' := 45) m_Mo_divisorOf rfl rfl ?_
    refine fi_step (pc' := 46) m_Mo_divisorOf rfl rfl ?_
    refine r_get (p := 49) m_Mo_divisorOf rfl rfl (by assumption) rfl ?_
    refine b_ishl (p := 50) m_Mo_divisorOf rfl rfl (by omega) (by omega) ?_
    refine s_ic_ge (p := 53) m_Mo_divisorOf rfl rfl (by omega) (by omega) (by omega) (by omega) (fun hbr => ?_) (fun hbr => False.elim (by omega))
    exact K w s r _ hw ho hB g0 (by rw [show (2 : Int) ^ R = y by omega]; exact hG) hr
  | succ f ih =>
    intro y w s r y0 y1 hf hw ho hB hV g0 hG hr
    have e2 : (2 : Int) ^ (s 0 1).toNat = 2 ^ R := by rw [ho 0 (by decide) (by decide) (by decide), hRt]
    have e1 : s 0 1 = R := by rw [ho 0 (by decide) (by decide) (by decide)]; exact hR
    have hl := els_len y 6
    refine fi_step (pc' := 44) m_Mo_divisorOf rfl rfl ?_
    refine fi_step (pc' := 45) m_Mo_divisorOf rfl rfl ?_
    refine fi_step (pc' := 46) m_Mo_divisorOf rfl rfl ?_
    refine r_get (p := 49) m_Mo_divisorOf rfl rfl (by assumption) rfl ?_
    refine b_ishl (p := 50) m_Mo_divisorOf rfl rfl (by omega) (by omega) ?_
    refine s_ic_ge (p := 53) m_Mo_divisorOf rfl rfl (by omega) (by omega) (by omega) (by omega) (fun h => ?_) (fun h => ?_)
    · exact K w s r _ hw ho hB g0 (by rw [show (2 : Int) ^ R = y by omega]; exact hG) hr
    · have skip : (∀ d, (els 6 y).length = k → A d → d ∣ V y) → fin xs fr lo 147 42 [some (.ref 425), some (.int (jI k)), some (.int (jI to)), some (.int (jI x)), some (.int (jI nn)), some (.int (jI (y + 1)))] [] w Q := by
        intro hs
        refine ih (y + 1) w s r (by omega) (by omega) (by omega) hw ho hB hV g0 (fun d => ?_) hr
        rw [hG d]
        constructor
        · intro q; refine ⟨q.1, fun y' p0 p1 p2 => ?_⟩
          by_cases e : y' = y
          · subst e; exact hs d p2 q.1
          · exact q.2 y' p0 (by omega) p2
        · intro q; exact ⟨q.1, fun y' p0 p1 p2 => q.2 y' p0 (by omega) p2⟩
      refine fi_step (pc' := 55) m_Mo_divisorOf rfl rfl ?_
      refine c_1 (p := 58) m_Mo_divisorOf rfl inv_s (by decide) m_Mo_sizeOf rfl rfl (by omega) (by omega) (Nat.le_of_ble_eq_true rfl) (Nat.le_of_ble_eq_true rfl) rfl (c_sizeOf y0 (by omega)) ?_
      rw [S_12 y0 (by omega)]
      refine fi_step (pc' := 59) m_Mo_divisorOf rfl rfl ?_
      refine s_ic_ne (p := 62) m_Mo_divisorOf rfl rfl (by omega) (by omega) (by omega) (by omega) (fun hs => ?_) (fun hs => ?_)
      · refine s_iinc (p := 87) m_Mo_divisorOf rfl rfl rfl ?_
        refine fi_step (pc' := 42) m_Mo_divisorOf rfl rfl ?_
        exact skip (fun d q _ => by omega)
      · have hv := hV y y0 (by omega) (by omega)
        refine fi_step (pc' := 63) m_Mo_divisorOf rfl rfl ?_
        refine s_bipush (p := 65) m_Mo_divisorOf rfl rfl rfl ?_
        refine fi_step (pc' := 67) m_Mo_divisorOf rfl rfl ?_
        refine s_iadd (p := 68) m_Mo_divisorOf rfl rfl ?_
        refine c_2 (p := 71) m_Mo_divisorOf rfl inv_v (by decide) m_Mo_bigIsZero rfl rfl (by omega) (by omega) (Nat.le_of_ble_eq_true rfl) (Nat.le_of_ble_eq_true rfl) (RW_rcv hw _) (c_isZ hw hB (by omega) (by omega)) ?_
        rw [hv]
        by_cases hz : V y = 0
        · rw [if_pos hz]
          refine s_if_ne (p := 74) m_Mo_divisorOf rfl rfl (by omega) (by omega) (fun hbr => ?_) (fun hbr => False.elim (by omega))
          refine s_iinc (p := 87) m_Mo_divisorOf rfl rfl rfl ?_
          refine fi_step (pc' := 42) m_Mo_divisorOf rfl rfl ?_
          exact skip (fun d _ _ => by rw [hz]; exact Int.dvd_zero d)
        · rw [if_neg hz]
          refine s_if_ne (p := 74) m_Mo_divisorOf rfl rfl (by omega) (by omega) (fun hbr => False.elim (by omega)) (fun hbr => ?_)
          refine fi_step (pc' := 75) m_Mo_divisorOf rfl rfl ?_
          refine fi_step (pc' := 76) m_Mo_divisorOf rfl rfl ?_
          refine s_bipush (p := 78) m_Mo_divisorOf rfl rfl rfl ?_
          refine fi_step (pc' := 80) m_Mo_divisorOf rfl rfl ?_
          refine s_iadd (p := 81) m_Mo_divisorOf rfl rfl ?_
          refine g_3 (p := 84) m_Mo_divisorOf rfl inv_v (by decide) m_Mo_divide rfl rfl (by omega) (by omega) (Nat.le_of_ble_eq_true rfl) (Nat.le_of_ble_eq_true rfl) (RW_rcv hw _) (c_divide (by omega) (by omega) hw hB (by omega) (by omega) htmp (by omega) (by omega) (by omega)) (fun v w hP => ?_)
          obtain ⟨rfl, s1, r1, hw, o1, B1, v1, k1⟩ := hP
          refine s_iinc (p := 87) m_Mo_divisorOf rfl rfl rfl ?_
          refine fi_step (pc' := 42) m_Mo_divisorOf rfl rfl ?_
          refine ih (y + 1) w s1 r1 (by omega) (by omega) (by omega) hw (oth_trans ho o1) B1 (fun y' p0 p1 p2 => by rw [k1 _ (by omega) (by unfold tmpK; omega)]; exact hV y' p0 p1 p2) (by rw [v1]; omega) (fun d => ?_) (fun j j0 j1 j2 => by rw [k1 j j1 j2]; exact hr j j0 j1 j2)
          rw [v1, hv, Int.dvd_coe_gcd_iff, hG d]
          constructor
          · intro q; refine ⟨q.1.1, fun y' p0 p1 p2 => ?_⟩
            by_cases e : y' = y
            · subst e; exact q.2
            · exact q.1.2 y' p0 (by omega) p2
          · intro q; exact ⟨⟨q.1, fun y' p0 p1 p2 => q.2 y' p0 (by omega) p2⟩, q.2 y y0 (by omega) (by omega)⟩
theorem divOf_out {to : Int} {k R C : Nat} {S : mo_S} {R0 : Int → Int} (hfr : 4 ≤ fr) (hlo : 150 ≤ lo) (hR : S 0 1 = R) (hR6 : R ≤ 6) (hC : S 0 2 = C) (hC6 : C ≤ 6) (hk : k ≤ 6) (t0 : to = 273 ∨ to = 274) (hg : ∀ i j : Int, 0 ≤ i → i < R → 0 ≤ j → j < C → ((S 7 (12 * i + j)).natAbs : Int) ≤ 1000000000000000000) :
    ∀ (f : Nat) (x : Int) (y4 y5 : Option Value) (w : ax_W) (s : mo_S) (r : Int → Int), 0 ≤ x → x ≤ 2 ^ C → 2 ^ C - x ≤ f → RW w0 w s → oth8 S s → Bg s r → 0 ≤ r to → (∀ d, d ∣ r to ↔ ∀ x' y', 0 ≤ x' → x' < x → (els 6 x').length = k → 0 ≤ y' → y' < 2 ^ R → (els 6 y').length = k → d ∣ mm (S 7) y' x') → (∀ j, j < 36 ∨ 100 ≤ j → j ≠ to → ¬ tmpK j → r j = R0 j) →
    fin xs fr lo 147 8 [some (.ref 425), some (.int (jI k)), some (.int (jI to)), some (.int (jI x)), y4, y5] [] w (Ret fun u w' => ∃ s' r', RW w0 w' s' ∧ oth8 S s' ∧ Bg s' r' ∧ isD (S 7) R C k (r' to) ∧ u = some (.int (jI (if r' to = 0 then 0 else 1))) ∧ ∀ j, j < 36 ∨ 100 ≤ j → j ≠ to → ¬ tmpK j → r' j = R0 j) := by
  have h64 := S_pow hC6
  have hCt : (S 0 2).toNat = C := by omega
  have last : ∀ (x : Int) (y4 y5 : Option Value) (w : ax_W) (s : mo_S) (r : Int → Int), x = 2 ^ C → RW w0 w s → oth8 S s → Bg s r → 0 ≤ r to → (∀ d, d ∣ r to ↔ ∀ x' y', 0 ≤ x' → x' < x → (els 6 x').length = k → 0 ≤ y' → y' < 2 ^ R → (els 6 y').length = k → d ∣ mm (S 7) y' x') → (∀ j, j < 36 ∨ 100 ≤ j → j ≠ to → ¬ tmpK j → r j = R0 j) → fin xs fr lo 147 96 [some (.ref 425), some (.int (jI k)), some (.int (jI to)), some (.int (jI x)), y4, y5] [] w (Ret fun u w' => ∃ s' r', RW w0 w' s' ∧ oth8 S s' ∧ Bg s' r' ∧ isD (S 7) R C k (r' to) ∧ u = some (.int (jI (if r' to = 0 then 0 else 1))) ∧ ∀ j, j < 36 ∨ 100 ≤ j → j ≠ to → ¬ tmpK j → r' j = R0 j) := by
    intro x y4 y5 w s r hx hw ho hB g0 hG hr
    subst hx
    refine fi_step (pc' := 97) m_Mo_divisorOf rfl rfl ?_
    refine fi_step (pc' := 98) m_Mo_divisorOf rfl rfl ?_
    refine c_2 (p := 101) m_Mo_divisorOf rfl inv_v (by decide) m_Mo_bigIsZero rfl rfl (by omega) (by omega) (Nat.le_of_ble_eq_true rfl) (Nat.le_of_ble_eq_true rfl) (RW_rcv hw _) (c_isZ hw hB (by omega) (by omega)) ?_
    by_cases hz : r to = 0
    · rw [if_pos hz]
      refine s_if_ne (p := 104) m_Mo_divisorOf rfl rfl (by omega) (by omega) (fun hbr => ?_) (fun hbr => False.elim (by omega))
      refine fi_step (pc' := 109) m_Mo_divisorOf rfl rfl ?_
      refine p_retb m_Mo_divisorOf rfl rfl (by first | exact Or.inl rfl | exact Or.inr rfl | omega) ?_
      exact ⟨s, r, hw, ho, hB, ⟨g0, fun d => by rw [hG d]⟩, by rw [if_pos hz], hr⟩
    · rw [if_neg hz]
      refine s_if_ne (p := 104) m_Mo_divisorOf rfl rfl (by omega) (by omega) (fun hbr => False.elim (by omega)) (fun hbr => ?_)
      refine fi_step (pc' := 105) m_Mo_divisorOf rfl rfl ?_
      refine fi_step (pc' := 109) m_Mo_divisorOf rfl rfl ?_
      refine p_retb m_Mo_divisorOf rfl rfl (by first | exact Or.inl rfl | exact Or.inr rfl | omega) ?_
      exact ⟨s, r, hw, ho, hB, ⟨g0, fun d => by rw [hG d]⟩, by rw [if_neg hz], hr⟩
  intro f
  induction f with
  | zero =>
    intro x y4 y5 w s r x0 x1 hf hw ho hB g0 hG hr
    have e2' : s 0 2 = C := by rw [ho 0 (by decide) (by decide) (by decide) (by decide)]; exact hC
    have e2 : (2 : Int) ^ (s 0 2).toNat = 2 ^ C := by rw [ho 0 (by decide) (by decide) (by decide) (by decide), hCt]
    refine fi_step (pc' := 9) m_Mo_divisorOf rfl rfl ?_
    refine fi_step (pc' := 10) m_Mo_divisorOf rfl rfl ?_
    refine fi_step (pc' := 11) m_Mo_divisorOf rfl rfl ?_
    refine r_get (p := 14) m_Mo_divisorOf rfl rfl (by assumption) rfl ?_
    refine b_ishl (p := 15) m_Mo_divisorOf rfl rfl (by omega) (by omega) ?_
    refine s_ic_ge (p := 18) m_Mo_divisorOf rfl rfl (by omega) (by omega) (by omega) (by omega) (fun hbr => ?_) (fun hbr => False.elim (by omega))
    exact last x _ _ w s r (by omega) hw ho hB g0 hG hr
  | succ f ih =>
    intro x y4 y5 w s r x0 x1 hf hw ho hB g0 hG hr
    have e1 : s 0 1 = R := by rw [ho 0 (by decide) (by decide) (by decide) (by decide)]; exact hR
    have e2' : s 0 2 = C := by rw [ho 0 (by decide) (by decide) (by decide) (by decide)]; exact hC
    have e2 : (2 : Int) ^ (s 0 2).toNat = 2 ^ C := by rw [ho 0 (by decide) (by decide) (by decide) (by decide), hCt]
    have e7 : s 7 = S 7 := ho 7 (by decide) (by decide) (by decide) (by decide)
    have hl := els_len x 6
    refine fi_step (pc' := 9) m_Mo_divisorOf rfl rfl ?_
    refine fi_step (pc' := 10) m_Mo_divisorOf rfl rfl ?_
    refine fi_step (pc' := 11) m_Mo_divisorOf rfl rfl ?_
    refine r_get (p := 14) m_Mo_divisorOf rfl rfl (by assumption) rfl ?_
    refine b_ishl (p := 15) m_Mo_divisorOf rfl rfl (by omega) (by omega) ?_
    refine s_ic_ge (p := 18) m_Mo_divisorOf rfl rfl (by omega) (by omega) (by omega) (by omega) (fun h => ?_) (fun h => ?_)
    · exact last x _ _ w s r (by omega) hw ho hB g0 hG hr
    · have hx : x < 2 ^ C := by omega
      have hcut := S_cut x0 hC6 hx
      refine fi_step (pc' := 19) m_Mo_divisorOf rfl rfl ?_
      refine c_1 (p := 22) m_Mo_divisorOf rfl inv_s (by decide) m_Mo_sizeOf rfl rfl (by omega) (by omega) (Nat.le_of_ble_eq_true rfl) (Nat.le_of_ble_eq_true rfl) rfl (c_sizeOf x0 (by omega)) ?_
      rw [S_12 x0 (by omega)]
      refine fi_step (pc' := 23) m_Mo_divisorOf rfl rfl ?_
      refine s_ic_ne (p := 26) m_Mo_divisorOf rfl rfl (by omega) (by omega) (by omega) (by omega) (fun hs => ?_) (fun hs => ?_)
      · refine s_iinc (p := 93) m_Mo_divisorOf rfl rfl rfl ?_
        refine fi_step (pc' := 8) m_Mo_divisorOf rfl rfl ?_
        refine ih (x + 1) _ _ w s r (by omega) (by omega) (by omega) hw ho hB g0 (fun d => ?_) hr
        rw [hG d]
        constructor
        · intro q x' y' p0 p1 p2 p3 p4 p5
          exact q x' y' p0 (by have : x' ≠ x := fun e => by subst e; omega
                               omega) p2 p3 p4 p5
        · intro q x' y' p0 p1 p2 p3 p4 p5; exact q x' y' p0 (by omega) p2 p3 p4 p5
      · refine fi_step (pc' := 27) m_Mo_divisorOf rfl rfl ?_
        refine fi_step (pc' := 28) m_Mo_divisorOf rfl rfl ?_
        refine g_2 (p := 31) m_Mo_divisorOf rfl inv_v (by decide) m_Mo_pick rfl rfl (by omega) (by omega) (Nat.le_of_ble_eq_true rfl) (Nat.le_of_ble_eq_true rfl) (RW_rcv hw _) (c_pick hw x0 (by omega) e2' (by omega) (by rw [hcut]; omega)) (fun v w hP => ?_)
        obtain ⟨rfl, s1, hw, o1, p1⟩ := hP
        rw [hcut] at p1
        have o1' : oth8 s s1 := fun a _ _ _ h8 => o1 a h8
        have hk' : (els 6 x).length = k := by omega
        rw [hk'] at p1
        have B1 : Bg s1 r := Bg_congr hB (o1 1 (by decide)) (o1 2 (by decide)) (o1 3 (by decide))
        have hpk : ∀ q : Nat, q < k → s1 8 q ∈ els 6 x := by
          intro q hq
          rw [← p1]
          have : ∀ n : Nat, q < n → s1 8 q ∈ plist (s1 8) n := by
            intro n
            induction n with
            | zero => intro h; omega
            | succ n ihn =>
              intro h
              rw [plist]
              by_cases e : q = n
              · subst e; exact List.mem_cons_self ..
              · exact List.mem_cons_of_mem _ (ihn (by omega))
          exact this k hq
        have hpk' : ∀ q : Nat, q < k → 0 ≤ s1 8 q ∧ s1 8 q < C := fun q hq => by
          have := hpk q hq; rw [← hcut] at this; exact els_mem this
        refine fi_step (pc' := 33) m_Mo_divisorOf rfl rfl ?_
        refine fi_step (pc' := 34) m_Mo_divisorOf rfl rfl ?_
        refine fi_step (pc' := 36) m_Mo_divisorOf rfl rfl ?_
        rw [hcut, hk']
        refine g_2 (p := 39) m_Mo_divisorOf rfl inv_v (by decide) m_Mo_findMinors rfl rfl (by omega) (by omega) (Nat.le_of_ble_eq_true rfl) (Nat.le_of_ble_eq_true rfl) (RW_rcv hw _) (c_findMinors (n := k) (R := R) (by omega) (by omega) hw B1 (by rw [o1 0 (by decide)]; exact e1) hR6 hk (fun q hq => by have := hpk' q hq; omega) (fun i j i0 i1 ⟨q, hq, hj⟩ => by rw [o1 7 (by decide), e7]; have := hpk' q hq; exact hg i j i0 i1 (by omega) (by omega))) (fun v w hP => ?_)
        obtain ⟨rfl, s2, r2, hw, o2, B2, v2, k2⟩ := hP
        refine fi_step (pc' := 40) m_Mo_divisorOf rfl rfl ?_
        refine fi_step (pc' := 42) m_Mo_divisorOf rfl rfl ?_
        have o2' : oth8 S s2 := oth8_trans ho (oth8_trans o1' (oth8_oth o2))
        have vv : ∀ y, 0 ≤ y → y < 2 ^ R → (els 6 y).length = k → r2 (36 + y) = mm (S 7) y x := by
          intro y y0 y1 yk
          rw [v2 y y0 y1, if_pos (by omega)]
          unfold mnr mm
          rw [yk, p1, o1 7 (by decide), e7]
        refine divOf_in (S := s2) (V := fun y => mm (S 7) y x) (R0 := R0) (A := fun d => ∀ x' y', 0 ≤ x' → x' < x → (els 6 x').length = k → 0 ≤ y' → y' < 2 ^ R → (els 6 y').length = k → d ∣ mm (S 7) y' x') (by omega) (by omega) (by rw [o2 0 (by decide) (by decide) (by decide), o1 0 (by decide)]; exact e1) hR6 hk t0 ?_ 64 0 w s2 r2 (by omega) (by have := S_pow hR6; omega) (by have := S_pow hR6; omega) hw (oth_refl s2) B2 vv (by rw [k2 to (by omega) (by omega) (by omega)]; exact g0) (fun d => ?_) (fun j j0 j1 j2 => ?_)
        · intro w3 s3 r3 y hw o3 B3 g3 hG3 hr3
          refine s_iinc (p := 93) m_Mo_divisorOf rfl rfl rfl ?_
          refine fi_step (pc' := 8) m_Mo_divisorOf rfl rfl ?_
          refine ih (x + 1) _ _ w3 s3 r3 (by omega) (by omega) (by omega) hw (oth8_trans o2' (oth8_oth o3)) B3 g3 (fun d => ?_) hr3
          rw [hG3 d]
          constructor
          · intro q x' y' p0 p1 p2 p3 p4 p5
            by_cases e : x' = x
            · subst e; exact q.2 y' p3 p4 p5
            · exact q.1 x' y' p0 (by omega) p2 p3 p4 p5
          · intro q; exact ⟨fun x' y' p0 p1 p2 p3 p4 p5 => q x' y' p0 (by omega) p2 p3 p4 p5, fun y' p3 p4 p5 => q x y' x0 (by omega) hk' p3 p4 p5⟩
        · rw [k2 to (by omega) (by omega) (by omega), hG d]
          exact ⟨fun q => ⟨q, fun y' p0 p1 _ => by omega⟩, fun q => q.1⟩
        · unfold tmpK at j2; rw [k2 j j0 (by omega) (by omega)]; exact hr j j0 j1 (by unfold tmpK; exact j2)
theorem c_divisorOf {to : Int} {k R C : Nat} {w : ax_W} {s : mo_S} {r : Int → Int} (hfr : 4 ≤ fr) (hlo : 150 ≤ lo) (hw : RW w0 w s) (hB : Bg s r) (hR : s 0 1 = R) (hR6 : R ≤ 6) (hC : s 0 2 = C) (hC6 : C ≤ 6) (hk : k ≤ 6) (t0 : to = 273 ∨ to = 274) (hg : ∀ i j : Int, 0 ≤ i → i < R → 0 ≤ j → j < C → ((s 7 (12 * i + j)).natAbs : Int) ≤ 1000000000000000000) :
    fin xs fr lo 147 0 (ax_ent [.ref 425, .int (jI k), .int (jI to)] 6) [] w (Ret fun u w' => ∃ s' r', RW w0 w' s' ∧ oth8 s s' ∧ Bg s' r' ∧ isD (s 7) R C k (r' to) ∧ u = some (.int (jI (if r' to = 0 then 0 else 1))) ∧ ∀ j, j < 36 ∨ 100 ≤ j → j ≠ to → ¬ tmpK j → r' j = r j) := by
  have h64 := S_pow hC6
  refine fi_step (pc' := 1) m_Mo_divisorOf rfl rfl ?_
  refine fi_step (pc' := 2) m_Mo_divisorOf rfl rfl ?_
  refine s_lconst (p := 3) (v := 0) m_Mo_divisorOf rfl rfl rfl ?_
  refine g_3 (p := 6) m_Mo_divisorOf rfl inv_v (by decide) m_Mo_bigSet rfl rfl (by omega) (by omega) (Nat.le_of_ble_eq_true rfl) (Nat.le_of_ble_eq_true rfl) (RW_rcv hw _) (c_bigSet hw hB (by omega) (by omega) (by decide) (by decide)) (fun v w hP => ?_)
  obtain ⟨rfl, s1, hw, o1, B1⟩ := hP
  have e7 : s1 7 = s 7 := o1 7 (by decide) (by decide) (by decide)
  refine fi_step (pc' := 7) m_Mo_divisorOf rfl rfl ?_
  refine fi_step (pc' := 8) m_Mo_divisorOf rfl rfl ?_
  refine fi_mono (divOf_out (S := s1) (R := R) (C := C) (k := k) (R0 := r) hfr hlo (by rw [o1 0 (by decide) (by decide) (by decide)]; exact hR) hR6 (by rw [o1 0 (by decide) (by decide) (by decide)]; exact hC) hC6 hk t0 (by rw [e7]; exact hg) 64 0 _ _ w s1 _ (by omega) (by omega) (by omega) hw (oth8_refl s1) B1 (by rw [up1_same]; decide) (fun d => ?_) (fun j _ j1 _ => up1_ne _ j1 _)) ?_
  · rw [up1_same]; exact ⟨fun _ x' y' p0 p1 => by omega, fun _ => Int.dvd_zero d⟩
  · rintro o w' ⟨v, rfl, s', r', g1, g2, g3, g4, g5, g6⟩
    rw [e7] at g4
    exact ⟨v, rfl, s', r', g1, oth8_trans (oth8_oth o1) g2, g3, g4, g5, g6⟩
/-- k is the rank: the greatest number of rows that have a minor that isn't 0 -/
def isRank (g : Int → Int) (R C k : Nat) : Prop := k ≤ R ∧ k ≤ C ∧ (k = 0 ∨ ∃ x y, 0 ≤ x ∧ x < 2 ^ C ∧ (els 6 x).length = k ∧ 0 ≤ y ∧ y < 2 ^ R ∧ (els 6 y).length = k ∧ mm g y x ≠ 0) ∧ ∀ q, k < q → q ≤ R → q ≤ C → ∀ x y, 0 ≤ x → x < 2 ^ C → (els 6 x).length = q → 0 ≤ y → y < 2 ^ R → (els 6 y).length = q → mm g y x = 0
theorem isRank_unique {g : Int → Int} {R C k k' : Nat} (h : isRank g R C k) (h' : isRank g R C k') : k = k' := by
  have key : ∀ {a b : Nat}, isRank g R C a → isRank g R C b → ¬ a < b := by
    intro a b ha hb hlt
    rcases hb.2.2.1 with e | ⟨x, y, x0, x1, x2, y0, y1, y2, h⟩
    · omega
    · exact h (ha.2.2.2 b hlt hb.1 hb.2.1 x y x0 x1 x2 y0 y1 y2)
  have := key h h'; have := key h' h; omega
theorem rankOf_loop {R C : Nat} {S : mo_S} (hfr : 5 ≤ fr) (hlo : 180 ≤ lo) (hR : S 0 1 = R) (hR6 : R ≤ 6) (hC : S 0 2 = C) (hC6 : C ≤ 6) (hg : ∀ i j : Int, 0 ≤ i → i < R → 0 ≤ j → j < C → ((S 7 (12 * i + j)).natAbs : Int) ≤ 1000000000000000000) :
    ∀ (k : Nat) (w : ax_W) (s : mo_S) (r : Int → Int), k ≤ R → k ≤ C → RW w0 w s → oth8 S s → Bg s r → (∀ q, k < q → q ≤ R → q ≤ C → ∀ x y, 0 ≤ x → x < 2 ^ C → (els 6 x).length = q → 0 ≤ y → y < 2 ^ R → (els 6 y).length = q → mm (S 7) y x = 0) →
    fin xs fr lo 145 13 [some (.ref 425), some (.int (jI k))] [] w (Ret fun u w' => ∃ s' r', RW w0 w' s' ∧ oth8 S s' ∧ Bg s' r' ∧ ∃ q : Nat, u = some (.int (jI q)) ∧ isRank (S 7) R C q) := by
  intro k
  induction k with
  | zero =>
    intro w s r h1 h2 hw ho hB hz
    refine fi_step (pc' := 14) m_Mo_rankOf rfl rfl ?_
    refine s_if_le (p := 17) m_Mo_rankOf rfl rfl (by omega) (by omega) (fun hbr => ?_) (fun hbr => False.elim (by omega))
    refine fi_step (pc' := 35) m_Mo_rankOf rfl rfl ?_
    refine p_reti m_Mo_rankOf rfl rfl ?_
    exact ⟨s, r, hw, ho, hB, 0, rfl, by omega, by omega, Or.inl rfl, hz⟩
  | succ k ih =>
    intro w s r h1 h2 hw ho hB hz
    have e0 : s 0 = S 0 := ho 0 (by decide) (by decide) (by decide) (by decide)
    have e7 : s 7 = S 7 := ho 7 (by decide) (by decide) (by decide) (by decide)
    refine fi_step (pc' := 14) m_Mo_rankOf rfl rfl ?_
    refine s_if_le (p := 17) m_Mo_rankOf rfl rfl (by omega) (by omega) (fun hbr => False.elim (by omega)) (fun hbr => ?_)
    refine fi_step (pc' := 18) m_Mo_rankOf rfl rfl ?_
    refine fi_step (pc' := 19) m_Mo_rankOf rfl rfl ?_
    refine s_sipush (p := 22) m_Mo_rankOf rfl rfl rfl ?_
    refine g_3 (p := 25) m_Mo_rankOf rfl inv_v (by decide) m_Mo_divisorOf rfl rfl (by omega) (by omega) (Nat.le_of_ble_eq_true rfl) (Nat.le_of_ble_eq_true rfl) (RW_rcv hw _) (c_divisorOf (k := k + 1) (R := R) (C := C) (by omega) (by omega) hw hB (by rw [e0]; exact hR) hR6 (by rw [e0]; exact hC) hC6 (by omega) (Or.inl rfl) (by rw [e7]; exact hg)) (fun v w hP => ?_)
    obtain ⟨s1, r1, hw, o1, B1, hD, rfl, _⟩ := hP
    rw [e7] at hD
    by_cases hz1 : r1 273 = 0
    · rw [if_pos hz1]
      refine s_if_ne (p := 28) m_Mo_rankOf rfl rfl (by omega) (by omega) (fun hbr => False.elim (by omega)) (fun hbr => ?_)
      refine s_iinc (p := 31) m_Mo_rankOf rfl rfl rfl ?_
      refine fi_step (pc' := 13) m_Mo_rankOf rfl rfl ?_
      have := ih w s1 r1 (by omega) (by omega) hw (oth8_trans ho o1) B1 (fun q q0 q1 q2 => by
        by_cases e : q = k + 1
        · subst e; exact (isD_zero hD).mp hz1
        · exact hz q (by omega) q1 q2)
      rw [show ((k + 1 : Nat) : Int) + -1 = (k : Int) by omega]
      exact this
    · rw [if_neg hz1]
      refine s_if_ne (p := 28) m_Mo_rankOf rfl rfl (by omega) (by omega) (fun hbr => ?_) (fun hbr => False.elim (by omega))
      refine fi_step (pc' := 35) m_Mo_rankOf rfl rfl ?_
      refine p_reti m_Mo_rankOf rfl rfl ?_
      refine ⟨s1, r1, hw, oth8_trans ho o1, B1, k + 1, rfl, h1, h2, Or.inr ?_, hz⟩
      refine Classical.byContradiction (fun hne => hz1 ((isD_zero hD).mpr (fun x y x0 x1 x2 y0 y1 y2 => ?_)))
      refine Classical.byContradiction (fun hm => hne ⟨x, y, x0, x1, x2, y0, y1, y2, hm⟩)
theorem c_rankOf {R C : Nat} {w : ax_W} {s : mo_S} {r : Int → Int} (hfr : 5 ≤ fr) (hlo : 180 ≤ lo) (hw : RW w0 w s) (hB : Bg s r) (hR : s 0 1 = R) (hR6 : R ≤ 6) (hC : s 0 2 = C) (hC6 : C ≤ 6) (hg : ∀ i j : Int, 0 ≤ i → i < R → 0 ≤ j → j < C → ((s 7 (12 * i + j)).natAbs : Int) ≤ 1000000000000000000) :
    fin xs fr lo 145 0 (ax_ent [.ref 425] 2) [] w (Ret fun u w' => ∃ s' r', RW w0 w' s' ∧ oth8 s s' ∧ Bg s' r' ∧ ∃ q : Nat, u = some (.int (jI q)) ∧ isRank (s 7) R C q) := by
  refine fi_step (pc' := 1) m_Mo_rankOf rfl rfl ?_
  refine fi_step (pc' := 2) m_Mo_rankOf rfl rfl ?_
  refine r_get (p := 5) m_Mo_rankOf rfl rfl (by assumption) rfl ?_
  refine fi_step (pc' := 6) m_Mo_rankOf rfl rfl ?_
  refine r_get (p := 9) m_Mo_rankOf rfl rfl (by assumption) rfl ?_
  refine c_3 (p := 12) m_Mo_rankOf rfl inv_v (by decide) m_Mo_least rfl rfl (by omega) (by omega) (Nat.le_of_ble_eq_true rfl) (Nat.le_of_ble_eq_true rfl) (RW_rcv hw _) (c_least (by omega) (by omega) (by omega) (by omega)) ?_
  rw [hR, hC]
  by_cases h : (R : Int) < (C : Int)
  · rw [if_pos h]
    refine fi_step (pc' := 13) m_Mo_rankOf rfl rfl ?_
    exact rankOf_loop hfr hlo hR hR6 hC hC6 hg R w s r (by omega) (by omega) hw (oth8_refl s) hB (fun q q0 q1 => by omega)
  · rw [if_neg h]
    refine fi_step (pc' := 13) m_Mo_rankOf rfl rfl ?_
    exact rankOf_loop hfr hlo hR hR6 hC hC6 hg C w s r (by omega) (by omega) hw (oth8_refl s) hB (fun q q0 q1 => by omega)
end RK
