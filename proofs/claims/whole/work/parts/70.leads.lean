/-! THE REFERENCE: the columns of the leads -/
/-- what the search for the form leaves as it was -/
def kF (s s' : mo_S) : Prop := (∀ a, a ≠ 0 → a ≠ 1 → a ≠ 2 → a ≠ 3 → a ≠ 8 → a ≠ 9 → s' a = s a) ∧ ∀ i, i ≠ 3 → i ≠ 4 → s' 0 i = s 0 i
theorem kF_refl (s : mo_S) : kF s s := ⟨fun _ _ _ _ _ _ _ => rfl, fun _ _ _ => rfl⟩
theorem kF_trans {s s' s'' : mo_S} (h : kF s s') (h' : kF s' s'') : kF s s'' := ⟨fun a h0 h1 h2 h3 h8 h9 => (h'.1 a h0 h1 h2 h3 h8 h9).trans (h.1 a h0 h1 h2 h3 h8 h9), fun i h3 h4 => (h'.2 i h3 h4).trans (h.2 i h3 h4)⟩
theorem kF_oth {s s' : mo_S} (h : oth s s') : kF s s' := ⟨fun a _ h1 h2 h3 _ _ => h a h1 h2 h3, fun i _ _ => by rw [h 0 (by decide) (by decide) (by decide)]⟩
theorem kF_up0 (s : mo_S) {k : Int} (hk : k = 3 ∨ k = 4) (v : Int) : kF s (up s 0 k v) := ⟨fun a h0 _ _ _ _ _ => up_ne _ h0 _ _, fun i h3 h4 => by rw [up_same, up1_ne _ (by omega)]⟩
theorem kF_up8 (s : mo_S) (k v : Int) : kF s (up s 8 k v) := ⟨fun a _ _ _ _ h8 _ => up_ne _ h8 _ _, fun i _ _ => by rw [up_ne _ (by decide)]⟩
theorem kF_up9 (s : mo_S) (k v : Int) : kF s (up s 9 k v) := ⟨fun a _ _ _ _ _ h9 => up_ne _ h9 _ _, fun i _ _ => by rw [up_ne _ (by decide)]⟩
/-- only numbers and the base change -/
def kB (s s' : mo_S) : Prop := (∀ a, a ≠ 0 → a ≠ 1 → a ≠ 2 → a ≠ 3 → s' a = s a) ∧ ∀ i, i ≠ 4 → s' 0 i = s 0 i
theorem kB_refl (s : mo_S) : kB s s := ⟨fun _ _ _ _ _ => rfl, fun _ _ => rfl⟩
theorem kB_oth {s s' s'' : mo_S} (h : kB s s') (h' : oth s' s'') : kB s s'' := ⟨fun a h0 h1 h2 h3 => (h' a h1 h2 h3).trans (h.1 a h0 h1 h2 h3), fun i h4 => by rw [h' 0 (by decide) (by decide) (by decide)]; exact h.2 i h4⟩
theorem kB_up {s s' : mo_S} (h : kB s s') (v : Int) : kB s (up s' 0 4 v) := ⟨fun a h0 h1 h2 h3 => (up_ne _ h0 _ _).trans (h.1 a h0 h1 h2 h3), fun i h4 => by rw [up_same, up1_ne _ h4]; exact h.2 i h4⟩
theorem kB_kF {s s' : mo_S} (h : kB s s') : kF s s' := ⟨fun a h0 h1 h2 h3 _ _ => h.1 a h0 h1 h2 h3, fun i _ h4 => h.2 i h4⟩
theorem Bg_up {s : mo_S} {r : Int → Int} (hB : Bg s r) {a : Nat} (h1 : (1 : Nat) ≠ a) (h2 : (2 : Nat) ≠ a) (h3 : (3 : Nat) ≠ a) (k v : Int) : Bg (up s a k v) r := Bg_congr hB (up_ne _ h1 _ _) (up_ne _ h2 _ _) (up_ne _ h3 _ _)
section LEADS
variable {xs : List Int32} {fr lo : Nat} {w0 : ax_W} {Q : Outcome → ax_W → Prop}
theorem lead_copy {j : Int} {S : mo_S} {f : Nat} (hf : f ≤ 6) (h3 : S 0 3 = f) (K : ∀ w s, RW w0 w s → (∀ a, a ≠ 8 → s a = S a) → (∀ k : Nat, k < f → s 8 k = S 9 k) → fin xs fr lo 159 75 [some (.ref 425), some (.int (jI j)), some (.int (jI f))] [] w Q) :
    ∀ (d k : Nat) (w : ax_W) (s : mo_S), k + d = f → RW w0 w s → (∀ a, a ≠ 8 → s a = S a) → (∀ i : Nat, i < k → s 8 i = S 9 i) →
    fin xs fr lo 159 49 [some (.ref 425), some (.int (jI j)), some (.int (jI k))] [] w Q := by
  intro d
  induction d with
  | zero =>
    intro k w s hk hw ho hp
    have e : s 0 3 = f := by rw [ho 0 (by decide)]; exact h3
    obtain rfl : k = f := by omega
    refine fi_step (pc' := 50) m_Mo_findLeads rfl rfl ?_
    refine fi_step (pc' := 51) m_Mo_findLeads rfl rfl ?_
    refine r_get (p := 54) m_Mo_findLeads rfl rfl (by assumption) rfl ?_
    refine s_ic_ge (p := 57) m_Mo_findLeads rfl rfl (by omega) (by omega) (by omega) (by omega) (fun hbr => ?_) (fun hbr => False.elim (by omega))
    exact K w s hw ho hp
  | succ d ih =>
    intro k w s hk hw ho hp
    have e : s 0 3 = f := by rw [ho 0 (by decide)]; exact h3
    refine fi_step (pc' := 50) m_Mo_findLeads rfl rfl ?_
    refine fi_step (pc' := 51) m_Mo_findLeads rfl rfl ?_
    refine r_get (p := 54) m_Mo_findLeads rfl rfl (by assumption) rfl ?_
    refine s_ic_ge (p := 57) m_Mo_findLeads rfl rfl (by omega) (by omega) (by omega) (by omega) (fun hbr => False.elim (by omega)) (fun hbr => ?_)
    refine fi_step (pc' := 58) m_Mo_findLeads rfl rfl ?_
    refine r_get (p := 61) m_Mo_findLeads rfl rfl (by assumption) rfl ?_
    refine fi_step (pc' := 62) m_Mo_findLeads rfl rfl ?_
    refine fi_step (pc' := 63) m_Mo_findLeads rfl rfl ?_
    refine r_get (p := 66) m_Mo_findLeads rfl rfl (by assumption) rfl ?_
    refine fi_step (pc' := 67) m_Mo_findLeads rfl rfl ?_
    refine r_ldI (p := 68) m_Mo_findLeads rfl rfl (by assumption) (by decide) rfl (by decide) (by omega) (by omega) ?_
    refine r_stI (p := 69) m_Mo_findLeads rfl rfl (by assumption) (by decide) (fun _ => rfl) (by decide) (by omega) (by omega) (fun w hw => ?_)
    refine s_iinc (p := 72) m_Mo_findLeads rfl rfl rfl ?_
    refine fi_step (pc' := 49) m_Mo_findLeads rfl rfl ?_
    refine ih (k + 1) w _ (by omega) hw (fun a ha => by rw [up_ne _ ha]; exact ho a ha) (fun i hi => ?_)
    by_cases e2 : i = k
    · subst e2; rw [up_same, up1_same, ho 9 (by decide)]
    · rw [up_same, up1_ne _ (by omega)]; exact hp i (by omega)
theorem lead_in {j W b0 q0 : Int} {f R : Nat} {S : mo_S} {V : Int → Int} (hfr : 4 ≤ fr) (hlo : 150 ≤ lo) (hR : S 0 1 = R) (hR6 : R ≤ 6) (h3 : S 0 3 = f) (hf : f < R)
    (K : ∀ w s r y, RW w0 w s → kB S s → Bg s r → 0 ≤ r 273 → (∀ d, d ∣ r 273 ↔ ∀ y, 0 ≤ y → y < 2 ^ R → (els 6 y).length = f + 1 → d ∣ V y) → r 276 = W → (r 273 = 0 → s 0 4 = b0 ∧ r 275 = q0) → (r 273 ≠ 0 → 0 ≤ s 0 4 ∧ s 0 4 < 2 ^ R ∧ (els 6 (s 0 4)).length = f + 1 ∧ r 275 = V (s 0 4) ∧ r 275 ≠ 0) → fin xs fr lo 159 182 [some (.ref 425), some (.int (jI j)), some (.int (jI y))] [] w Q) :
    ∀ (n : Nat) (y : Int) (w : ax_W) (s : mo_S) (r : Int → Int), 0 ≤ y → y ≤ 2 ^ R → 2 ^ R - y ≤ n → RW w0 w s → kB S s → Bg s r → (∀ y, 0 ≤ y → y < 2 ^ R → (els 6 y).length = f + 1 → r (36 + y) = V y) → 0 ≤ r 273 → (∀ d, d ∣ r 273 ↔ ∀ y', 0 ≤ y' → y' < y → (els 6 y').length = f + 1 → d ∣ V y') → r 276 = W → (r 273 = 0 → s 0 4 = b0 ∧ r 275 = q0) → (r 273 ≠ 0 → 0 ≤ s 0 4 ∧ s 0 4 < 2 ^ R ∧ (els 6 (s 0 4)).length = f + 1 ∧ r 275 = V (s 0 4) ∧ r 275 ≠ 0) →
    fin xs fr lo 159 105 [some (.ref 425), some (.int (jI j)), some (.int (jI y))] [] w Q := by
  have h64 := S_pow hR6
  have hRt : (S 0 1).toNat = R := by omega
  intro n
  induction n with
  | zero =>
    intro y w s r y0 y1 hn hw ho hB hV g0 hG hW hz hnz
    have e2 : (2 : Int) ^ (s 0 1).toNat = 2 ^ R := by rw [ho.2 1 (by decide), hRt]
    have e1 : s 0 1 = R := by rw [ho.2 1 (by decide)]; exact hR
    refine fi_step (pc' := 106) m_Mo_findLeads rfl rfl ?_
    refine fi_step (pc' := 107) m_Mo_findLeads rfl rfl ?_
    refine fi_step (pc' := 108) m_Mo_findLeads rfl rfl ?_
    refine r_get (p := 111) m_Mo_findLeads rfl rfl (by assumption) rfl ?_
    refine b_ishl (p := 112) m_Mo_findLeads rfl rfl (by omega) (by omega) ?_
    refine s_ic_ge (p := 115) m_Mo_findLeads rfl rfl (by omega) (by omega) (by omega) (by omega) (fun hbr => ?_) (fun hbr => False.elim (by omega))
    exact K w s r y hw ho hB g0 (by rw [show (2 : Int) ^ R = y by omega]; exact hG) hW hz hnz
  | succ n ih =>
    intro y w s r y0 y1 hn hw ho hB hV g0 hG hW hz hnz
    have e2 : (2 : Int) ^ (s 0 1).toNat = 2 ^ R := by rw [ho.2 1 (by decide), hRt]
    have e1 : s 0 1 = R := by rw [ho.2 1 (by decide)]; exact hR
    have e3 : s 0 3 = f := by rw [ho.2 3 (by decide)]; exact h3
    have hl := els_len y 6
    refine fi_step (pc' := 106) m_Mo_findLeads rfl rfl ?_
    refine fi_step (pc' := 107) m_Mo_findLeads rfl rfl ?_
    refine fi_step (pc' := 108) m_Mo_findLeads rfl rfl ?_
    refine r_get (p := 111) m_Mo_findLeads rfl rfl (by assumption) rfl ?_
    refine b_ishl (p := 112) m_Mo_findLeads rfl rfl (by omega) (by omega) ?_
    refine s_ic_ge (p := 115) m_Mo_findLeads rfl rfl (by omega) (by omega) (by omega) (by omega) (fun h => ?_) (fun h => ?_)
    · exact K w s r y hw ho hB g0 (by rw [show (2 : Int) ^ R = y by omega]; exact hG) hW hz hnz
    · have skip : (∀ d, (els 6 y).length = f + 1 → d ∣ V y) → fin xs fr lo 159 105 [some (.ref 425), some (.int (jI j)), some (.int (jI (y + 1)))] [] w Q := by
        intro hs
        refine ih (y + 1) w s r (by omega) (by omega) (by omega) hw ho hB hV g0 (fun d => ?_) hW hz hnz
        rw [hG d]
        constructor
        · intro q y' p0 p1 p2
          by_cases e : y' = y
          · subst e; exact hs d p2
          · exact q y' p0 (by omega) p2
        · intro q y' p0 p1 p2; exact q y' p0 (by omega) p2
      refine fi_step (pc' := 116) m_Mo_findLeads rfl rfl ?_
      refine c_1 (p := 119) m_Mo_findLeads rfl inv_s (by decide) m_Mo_sizeOf rfl rfl (by omega) (by omega) (Nat.le_of_ble_eq_true rfl) (Nat.le_of_ble_eq_true rfl) rfl (c_sizeOf y0 (by omega)) ?_
      rw [S_12 y0 (by omega)]
      refine fi_step (pc' := 120) m_Mo_findLeads rfl rfl ?_
      refine r_get (p := 123) m_Mo_findLeads rfl rfl (by assumption) rfl ?_
      refine fi_step (pc' := 124) m_Mo_findLeads rfl rfl ?_
      refine s_iadd (p := 125) m_Mo_findLeads rfl rfl ?_
      refine s_ic_ne (p := 128) m_Mo_findLeads rfl rfl (by omega) (by omega) (by omega) (by omega) (fun hs => ?_) (fun hs => ?_)
      · refine s_iinc (p := 179) m_Mo_findLeads rfl rfl rfl ?_
        refine fi_step (pc' := 105) m_Mo_findLeads rfl rfl ?_
        exact skip (fun d q => by omega)
      · have hv := hV y y0 (by omega) (by omega)
        refine fi_step (pc' := 129) m_Mo_findLeads rfl rfl ?_
        refine s_bipush (p := 131) m_Mo_findLeads rfl rfl rfl ?_
        refine fi_step (pc' := 132) m_Mo_findLeads rfl rfl ?_
        refine s_iadd (p := 133) m_Mo_findLeads rfl rfl ?_
        refine c_2 (p := 136) m_Mo_findLeads rfl inv_v (by decide) m_Mo_bigIsZero rfl rfl (by omega) (by omega) (Nat.le_of_ble_eq_true rfl) (Nat.le_of_ble_eq_true rfl) (RW_rcv hw _) (c_isZ hw hB (by omega) (by omega)) ?_
        rw [hv]
        by_cases hz1 : V y = 0
        · rw [if_pos hz1]
          refine s_if_ne (p := 139) m_Mo_findLeads rfl rfl (by omega) (by omega) (fun hbr => ?_) (fun hbr => False.elim (by omega))
          refine s_iinc (p := 179) m_Mo_findLeads rfl rfl rfl ?_
          refine fi_step (pc' := 105) m_Mo_findLeads rfl rfl ?_
          exact skip (fun d _ => by rw [hz1]; exact Int.dvd_zero d)
        · rw [if_neg hz1]
          have go : ∀ (w : ax_W) (s : mo_S) (r : Int → Int), RW w0 w s → kB S s → Bg s r → (∀ y, 0 ≤ y → y < 2 ^ R → (els 6 y).length = f + 1 → r (36 + y) = V y) → 0 ≤ r 273 → (∀ d, d ∣ r 273 ↔ ∀ y', 0 ≤ y' → y' < y → (els 6 y').length = f + 1 → d ∣ V y') → r 276 = W → (0 ≤ s 0 4 ∧ s 0 4 < 2 ^ R ∧ (els 6 (s 0 4)).length = f + 1 ∧ r 275 = V (s 0 4) ∧ r 275 ≠ 0) → fin xs fr lo 159 165 [some (.ref 425), some (.int (jI j)), some (.int (jI y))] [] w Q := by
            intro w s r hw ho hB hV g0 hG hW hnz
            have hv := hV y y0 (by omega) (by omega)
            refine fi_step (pc' := 166) m_Mo_findLeads rfl rfl ?_
            refine s_sipush (p := 169) m_Mo_findLeads rfl rfl rfl ?_
            refine s_bipush (p := 171) m_Mo_findLeads rfl rfl rfl ?_
            refine fi_step (pc' := 172) m_Mo_findLeads rfl rfl ?_
            refine s_iadd (p := 173) m_Mo_findLeads rfl rfl ?_
            refine g_3 (p := 176) m_Mo_findLeads rfl inv_v (by decide) m_Mo_divide rfl rfl (by omega) (by omega) (Nat.le_of_ble_eq_true rfl) (Nat.le_of_ble_eq_true rfl) (RW_rcv hw _) (c_divide (by omega) (by omega) hw hB (by omega) (by omega) (by unfold tmpK; omega) (by omega) (by omega) (by omega)) (fun v w hP => ?_)
            obtain ⟨rfl, s1, r1, hw, o1, B1, v1, k1⟩ := hP
            have e4 : s1 0 = s 0 := o1 0 (by decide) (by decide) (by decide)
            have hne : r1 273 ≠ 0 := by
              rw [v1, hv]
              intro e
              have := (Int.gcd_eq_zero_iff.mp (Int.natCast_eq_zero.mp e)).2
              exact hz1 this
            refine s_iinc (p := 179) m_Mo_findLeads rfl rfl rfl ?_
            refine fi_step (pc' := 105) m_Mo_findLeads rfl rfl ?_
            refine ih (y + 1) w s1 r1 (by omega) (by omega) (by omega) hw (kB_oth ho o1) B1 (fun y' p0 p1 p2 => by rw [k1 _ (by omega) (by unfold tmpK; omega)]; exact hV y' p0 p1 p2) (by rw [v1]; omega) (fun d => ?_) (by rw [k1 _ (by omega) (by unfold tmpK; omega)]; exact hW) (fun e => absurd e hne) (fun _ => by rw [e4, k1 275 (by omega) (by unfold tmpK; omega)]; exact hnz)
            rw [v1, hv, Int.dvd_coe_gcd_iff, hG d]
            constructor
            · intro q y' p0 p1 p2
              by_cases e : y' = y
              · subst e; exact q.2
              · exact q.1 y' p0 (by omega) p2
            · intro q; exact ⟨fun y' p0 p1 p2 => q y' p0 (by omega) p2, q y y0 (by omega) (by omega)⟩
          refine s_if_ne (p := 139) m_Mo_findLeads rfl rfl (by omega) (by omega) (fun hbr => False.elim (by omega)) (fun hbr => ?_)
          refine fi_step (pc' := 140) m_Mo_findLeads rfl rfl ?_
          refine s_sipush (p := 143) m_Mo_findLeads rfl rfl rfl ?_
          refine c_2 (p := 146) m_Mo_findLeads rfl inv_v (by decide) m_Mo_bigIsZero rfl rfl (by omega) (by omega) (Nat.le_of_ble_eq_true rfl) (Nat.le_of_ble_eq_true rfl) (RW_rcv hw _) (c_isZ hw hB (by omega) (by omega)) ?_
          by_cases hg : r 273 = 0
          · rw [if_pos hg]
            refine s_if_eq (p := 149) m_Mo_findLeads rfl rfl (by omega) (by omega) (fun hbr => False.elim (by omega)) (fun hbr => ?_)
            refine fi_step (pc' := 150) m_Mo_findLeads rfl rfl ?_
            refine fi_step (pc' := 151) m_Mo_findLeads rfl rfl ?_
            refine r_put (p := 154) 4 m_Mo_findLeads rfl rfl (by assumption) (r_put4 _ _) rfl (fun w hw => ?_)
            refine fi_step (pc' := 155) m_Mo_findLeads rfl rfl ?_
            refine s_sipush (p := 158) m_Mo_findLeads rfl rfl rfl ?_
            refine s_bipush (p := 160) m_Mo_findLeads rfl rfl rfl ?_
            refine fi_step (pc' := 161) m_Mo_findLeads rfl rfl ?_
            refine s_iadd (p := 162) m_Mo_findLeads rfl rfl ?_
            refine g_3 (p := 165) m_Mo_findLeads rfl inv_v (by decide) m_Mo_bigCopy rfl rfl (by omega) (by omega) (Nat.le_of_ble_eq_true rfl) (Nat.le_of_ble_eq_true rfl) (RW_rcv hw _) (c_bigCopy hw (Bg_up hB (by decide) (by decide) (by decide) _ _) (by omega) (by omega) (by omega) (by omega) (by omega)) (fun v w hP => ?_)
            obtain ⟨rfl, s1, hw, o1, B1⟩ := hP
            have e4 : s1 0 4 = y := by rw [o1 0 (by decide) (by decide) (by decide), up_same, up1_same]
            refine go w s1 _ hw (kB_oth (kB_up ho y) o1) B1 (fun y' p0 p1 p2 => by rw [up1_ne _ (by omega)]; exact hV y' p0 p1 p2) (by rw [up1_ne _ (by decide)]; exact g0) (fun d => by rw [up1_ne _ (by decide)]; exact hG d) (by rw [up1_ne _ (by decide)]; exact hW) ?_
            rw [e4, up1_same, hv]
            exact ⟨y0, by omega, by omega, rfl, hz1⟩
          · rw [if_neg hg]
            refine s_if_eq (p := 149) m_Mo_findLeads rfl rfl (by omega) (by omega) (fun hbr => ?_) (fun hbr => False.elim (by omega))
            exact go w s r hw ho hB hV g0 hG hW (hnz hg)
/-- the leads, the base and what the minors have in common -/
def ldI (g : Int → Int) (R : Nat) (s : mo_S) (r : Int → Int) (f : Nat) : Prop :=
  s 0 3 = f ∧ f ≤ R ∧ 0 ≤ s 0 4 ∧ s 0 4 < 2 ^ R ∧ (els 6 (s 0 4)).length = f ∧ r 275 = mnr g (s 9) (s 0 4) ∧ r 275 ≠ 0 ∧ 0 < r 276 ∧ ∀ d, d ∣ r 276 ↔ ∀ y, 0 ≤ y → y < 2 ^ R → (els 6 y).length = f → d ∣ mnr g (s 9) y
theorem lead_out {R C : Nat} {S : mo_S} (hfr : 4 ≤ fr) (hlo : 150 ≤ lo) (hR : S 0 1 = R) (hR6 : R ≤ 6) (hC : S 0 2 = C) (hC12 : C ≤ 12) (hg : ∀ i j : Int, 0 ≤ i → i < R → 0 ≤ j → j < C → ((S 7 (12 * i + j)).natAbs : Int) ≤ 1000000000000000000) :
    ∀ (n : Nat) (j : Int) (f : Nat) (y : Option Value) (w : ax_W) (s : mo_S) (r : Int → Int), 0 ≤ j → j ≤ C → C - j ≤ n → RW w0 w s → kF S s → Bg s r → ldI (S 7) R s r f → isLeads (rowsOf R C (S 7)) j (s 9) f →
    fin xs fr lo 159 28 [some (.ref 425), some (.int (jI j)), y] [] w (Ret fun u w' => u = none ∧ ∃ s' r' f, RW w0 w' s' ∧ kF S s' ∧ Bg s' r' ∧ ldI (S 7) R s' r' f ∧ isLeads (rowsOf R C (S 7)) C (s' 9) f) := by
  have h64 := S_pow hR6
  intro n
  induction n with
  | zero =>
    intro j f y w s r j0 j1 hn hw ho hB hI hL
    have e2 : s 0 2 = C := by rw [ho.2 2 (by decide) (by decide)]; exact hC
    obtain rfl : j = C := by omega
    refine fi_step (pc' := 29) m_Mo_findLeads rfl rfl ?_
    refine fi_step (pc' := 30) m_Mo_findLeads rfl rfl ?_
    refine r_get (p := 33) m_Mo_findLeads rfl rfl (by assumption) rfl ?_
    refine s_ic_ge (p := 36) m_Mo_findLeads rfl rfl (by omega) (by omega) (by omega) (by omega) (fun hbr => ?_) (fun hbr => False.elim (by omega))
    refine p_ret m_Mo_findLeads rfl rfl ?_
    exact ⟨rfl, s, r, f, hw, ho, hB, hI, hL⟩
  | succ n ih =>
    intro j f y w s r j0 j1 hn hw ho hB hI hL
    have e1 : s 0 1 = R := by rw [ho.2 1 (by decide) (by decide)]; exact hR
    have e2 : s 0 2 = C := by rw [ho.2 2 (by decide) (by decide)]; exact hC
    have e7 : s 7 = S 7 := ho.1 7 (by decide) (by decide) (by decide) (by decide) (by decide) (by decide)
    have e3 := hI.1
    have hfR := hI.2.1
    refine fi_step (pc' := 29) m_Mo_findLeads rfl rfl ?_
    refine fi_step (pc' := 30) m_Mo_findLeads rfl rfl ?_
    refine r_get (p := 33) m_Mo_findLeads rfl rfl (by assumption) rfl ?_
    refine s_ic_ge (p := 36) m_Mo_findLeads rfl rfl (by omega) (by omega) (by omega) (by omega) (fun h => ?_) (fun h => ?_)
    · obtain rfl : j = C := by omega
      refine p_ret m_Mo_findLeads rfl rfl ?_
      exact ⟨rfl, s, r, f, hw, ho, hB, hI, hL⟩
    · refine fi_step (pc' := 37) m_Mo_findLeads rfl rfl ?_
      refine r_get (p := 40) m_Mo_findLeads rfl rfl (by assumption) rfl ?_
      refine fi_step (pc' := 41) m_Mo_findLeads rfl rfl ?_
      refine r_get (p := 44) m_Mo_findLeads rfl rfl (by assumption) rfl ?_
      refine s_ic_ge (p := 47) m_Mo_findLeads rfl rfl (by omega) (by omega) (by omega) (by omega) (fun hf => ?_) (fun hf => ?_)
      · refine p_ret m_Mo_findLeads rfl rfl ?_
        exact ⟨rfl, s, r, f, hw, ho, hB, hI, leads_end hL j1 (by rw [rowsOf_len]; omega)⟩
      · have hlr := hL.2.1
        refine fi_step (pc' := 48) m_Mo_findLeads rfl rfl ?_
        refine fi_step (pc' := 49) m_Mo_findLeads rfl rfl ?_
        refine lead_copy (S := s) (f := f) (by omega) e3 ?_ f 0 w s (by omega) hw (fun _ _ => rfl) (fun i hi => by omega)
        intro w s1 hw o1 hp1
        have e13 : s1 0 3 = f := by rw [o1 0 (by decide)]; exact e3
        have B1 : Bg s1 r := Bg_congr hB (o1 1 (by decide)) (o1 2 (by decide)) (o1 3 (by decide))
        have k1 : kF s s1 := ⟨fun a _ _ _ _ h8 _ => o1 a h8, fun i _ _ => by rw [o1 0 (by decide)]⟩
        have hp2 : plist (up1 (s1 8) f j) (f + 1) = j :: plist (s 9) f := by
          rw [plist_up, plist_congr (g := s 9) hp1]
        refine fi_step (pc' := 76) m_Mo_findLeads rfl rfl ?_
        refine r_get (p := 79) m_Mo_findLeads rfl rfl (by assumption) rfl ?_
        refine fi_step (pc' := 80) m_Mo_findLeads rfl rfl ?_
        refine r_get (p := 83) m_Mo_findLeads rfl rfl (by assumption) rfl ?_
        refine fi_step (pc' := 84) m_Mo_findLeads rfl rfl ?_
        refine r_stI (p := 85) m_Mo_findLeads rfl rfl (by assumption) (by decide) (fun _ => rfl) (by decide) (by omega) (by omega) (fun w hw => ?_)
        refine fi_step (pc' := 86) m_Mo_findLeads rfl rfl ?_
        refine fi_step (pc' := 87) m_Mo_findLeads rfl rfl ?_
        refine r_get (p := 90) m_Mo_findLeads rfl rfl (by assumption) rfl ?_
        refine fi_step (pc' := 91) m_Mo_findLeads rfl rfl ?_
        refine s_iadd (p := 92) m_Mo_findLeads rfl rfl ?_
        have e13' : up s1 8 (s1 0 3) j 0 3 = f := by rw [up_ne _ (by decide)]; exact e13
        rw [e13', show (f : Int) + 1 = ((f + 1 : Nat) : Int) by omega]
        rw [e13] at hw
        have hpin : ∀ k : Nat, k < f + 1 → 0 ≤ up s1 8 f j 8 k ∧ up s1 8 f j 8 k < C := by
          intro k hk
          rw [up_same]
          by_cases e : k = f
          · subst e; rw [up1_same]; omega
          · rw [up1_ne _ (by omega), hp1 k (by omega)]; have := hlr k (by omega); omega
        refine g_2 (p := 95) m_Mo_findLeads rfl inv_v (by decide) m_Mo_findMinors rfl rfl (by omega) (by omega) (Nat.le_of_ble_eq_true rfl) (Nat.le_of_ble_eq_true rfl) (RW_rcv hw _) (c_findMinors (n := f + 1) (R := R) (by omega) (by omega) hw (Bg_up B1 (by decide) (by decide) (by decide) _ _) (by rw [up_ne _ (by decide), o1 0 (by decide)]; exact e1) hR6 (by omega) (fun k hk => by have := hpin k hk; omega) (fun i j i0 i1 ⟨q, hq, hj⟩ => by rw [up_ne _ (by decide), o1 7 (by decide), e7]; have := hpin q hq; exact hg i j i0 i1 (by omega) (by omega))) (fun v w hP => ?_)
        obtain ⟨rfl, s2, r2, hw, o2, B2, v2, k2⟩ := hP
        have hmn : ∀ y, 0 ≤ y → y < 2 ^ R → (els 6 y).length = f + 1 → r2 (36 + y) = detC ((els 6 y).map (fun i j => S 7 (12 * i + j))) (j :: plist (s 9) f) := by
          intro y y0 y1 yl
          rw [v2 y y0 y1, if_pos (by omega)]
          unfold mnr
          rw [yl, up_same, hp2, up_ne _ (by decide), o1 7 (by decide), e7]
        have kk2 : kF s s2 := kF_trans k1 (kF_trans (kF_up8 _ _ _) (kF_oth o2))
        have e23 : s2 0 3 = f := by rw [o2 0 (by decide) (by decide) (by decide), up_ne _ (by decide)]; exact e13
        have e24 : s2 0 4 = s 0 4 := by rw [o2 0 (by decide) (by decide) (by decide), up_ne _ (by decide), o1 0 (by decide)]
        have e29 : s2 9 = s 9 := by rw [o2 9 (by decide) (by decide) (by decide), up_ne _ (by decide), o1 9 (by decide)]
        refine fi_step (pc' := 96) m_Mo_findLeads rfl rfl ?_
        refine s_sipush (p := 99) m_Mo_findLeads rfl rfl rfl ?_
        refine s_lconst (p := 100) (v := 0) m_Mo_findLeads rfl rfl rfl ?_
        refine g_3 (p := 103) m_Mo_findLeads rfl inv_v (by decide) m_Mo_bigSet rfl rfl (by omega) (by omega) (Nat.le_of_ble_eq_true rfl) (Nat.le_of_ble_eq_true rfl) (RW_rcv hw _) (c_bigSet hw B2 (by omega) (by omega) (by decide) (by decide)) (fun v w hP => ?_)
        obtain ⟨rfl, s3, hw, o3, B3⟩ := hP
        have e30 : s3 0 = s2 0 := o3 0 (by decide) (by decide) (by decide)
        have e39 : s3 9 = s 9 := by rw [o3 9 (by decide) (by decide) (by decide), e29]
        have kk3 : kF S s3 := kF_trans ho (kF_trans kk2 (kF_oth o3))
        refine fi_step (pc' := 104) m_Mo_findLeads rfl rfl ?_
        refine fi_step (pc' := 105) m_Mo_findLeads rfl rfl ?_
        refine lead_in (S := s3) (R := R) (f := f) (V := fun y => detC ((els 6 y).map (fun i j => S 7 (12 * i + j))) (j :: plist (s 9) f)) (b0 := s 0 4) (q0 := r 275) (W := r 276) (by omega) (by omega) (by rw [kk3.2 1 (by decide) (by decide)]; exact hR) hR6 (by rw [e30]; exact e23) (by omega) ?_ 64 0 w s3 _ (by omega) (by omega) (by omega) hw (kB_refl s3) B3 (fun y y0 y1 yl => by rw [up1_ne _ (by omega)]; exact hmn y y0 y1 yl) (by rw [up1_same]; decide) (fun d => ⟨fun _ y' p0 p1 => by omega, fun _ => by rw [up1_same]; exact Int.dvd_zero d⟩) (by rw [up1_ne _ (by decide)]; exact k2 276 (by omega) (by omega) (by omega)) (fun _ => ⟨by rw [e30, e24], by rw [up1_ne _ (by decide)]; exact k2 275 (by omega) (by omega) (by omega)⟩) (fun h => absurd (up1_same ..) h)
        intro w s4 r4 y4 hw o4 B4 g4 hG4 hW4 hz4 hn4
        have e49 : s4 9 = s 9 := by rw [o4.1 9 (by decide) (by decide) (by decide) (by decide), e39]
        have e43 : s4 0 3 = f := by rw [o4.2 3 (by decide), e30]; exact e23
        have kk4 : kF S s4 := kF_trans kk3 (kB_kF o4)
        have hJ : ∀ i, i ∈ j :: plist (s 9) f → 0 ≤ i ∧ i < (C : Int) := by
          intro i hi
          rcases List.mem_cons.mp hi with e | e
          · subst e; omega
          · obtain ⟨k, hk, rfl⟩ := plist_mem.mp e
            have := hlr k hk; omega
        have hJl : (j :: plist (s 9) f).length = f + 1 := by rw [List.length_cons, plist_len]
        refine fi_step (pc' := 183) m_Mo_findLeads rfl rfl ?_
        refine s_sipush (p := 186) m_Mo_findLeads rfl rfl rfl ?_
        refine c_2 (p := 189) m_Mo_findLeads rfl inv_v (by decide) m_Mo_bigIsZero rfl rfl (by omega) (by omega) (Nat.le_of_ble_eq_true rfl) (Nat.le_of_ble_eq_true rfl) (RW_rcv hw _) (c_isZ hw B4 (by omega) (by omega)) ?_
        by_cases hz : r4 273 = 0
        · rw [if_pos hz]
          obtain ⟨z1, z2⟩ := hz4 hz
          refine s_if_ne (p := 192) m_Mo_findLeads rfl rfl (by omega) (by omega) (fun hbr => ?_) (fun hbr => False.elim (by omega))
          refine s_iinc (p := 225) m_Mo_findLeads rfl rfl rfl ?_
          refine fi_step (pc' := 28) m_Mo_findLeads rfl rfl ?_
          refine ih (j + 1) f _ w s4 r4 (by omega) (by omega) (by omega) hw kk4 B4 ?_ ?_
          · unfold ldI at hI ⊢
            rw [e43, z1, z2, e49, hW4]
            exact ⟨rfl, hI.2⟩
          · rw [e49]
            refine leads_non hL (fun l hl hm => ?_)
            refine Int.zero_dvd.mp ((sets_lists (C := C) (g := S 7) (d := 0) hR6 hJ).mp (fun y y0 y1 yl => ?_) l (by rw [hJl]; exact hl) hm)
            exact (hG4 0).mp (by rw [hz]; exact Int.dvd_refl 0) y y0 y1 (by rw [← hJl]; exact yl)
        · rw [if_neg hz]
          obtain ⟨n1, n2, n3, n4, n5⟩ := hn4 hz
          refine s_if_ne (p := 192) m_Mo_findLeads rfl rfl (by omega) (by omega) (fun hbr => False.elim (by omega)) (fun hbr => ?_)
          refine fi_step (pc' := 193) m_Mo_findLeads rfl rfl ?_
          refine r_get (p := 196) m_Mo_findLeads rfl rfl (by assumption) rfl ?_
          refine fi_step (pc' := 197) m_Mo_findLeads rfl rfl ?_
          refine r_get (p := 200) m_Mo_findLeads rfl rfl (by assumption) rfl ?_
          refine fi_step (pc' := 201) m_Mo_findLeads rfl rfl ?_
          refine r_stI (p := 202) m_Mo_findLeads rfl rfl (by assumption) (by decide) (fun _ => rfl) (by decide) (by omega) (by omega) (fun w hw => ?_)
          refine fi_step (pc' := 203) m_Mo_findLeads rfl rfl ?_
          refine fi_step (pc' := 204) m_Mo_findLeads rfl rfl ?_
          refine r_get (p := 207) m_Mo_findLeads rfl rfl (by assumption) rfl ?_
          refine fi_step (pc' := 208) m_Mo_findLeads rfl rfl ?_
          refine s_iadd (p := 209) m_Mo_findLeads rfl rfl ?_
          refine r_put (p := 212) 3 m_Mo_findLeads rfl rfl (by assumption) (r_put3 _ _) rfl (fun w hw => ?_)
          refine fi_step (pc' := 213) m_Mo_findLeads rfl rfl ?_
          refine s_sipush (p := 216) m_Mo_findLeads rfl rfl rfl ?_
          refine s_sipush (p := 219) m_Mo_findLeads rfl rfl rfl ?_
          rw [e43] at hw
          have hw' := hw
          have e44 : up s4 9 (f : Int) j 0 3 = f := by rw [up_ne _ (by decide)]; exact e43
          rw [e44] at hw
          refine g_3 (p := 222) m_Mo_findLeads rfl inv_v (by decide) m_Mo_bigCopy rfl rfl (by omega) (by omega) (Nat.le_of_ble_eq_true rfl) (Nat.le_of_ble_eq_true rfl) (RW_rcv hw _) (c_bigCopy hw (Bg_up (Bg_up B4 (by decide) (by decide) (by decide) _ _) (by decide) (by decide) (by decide) _ _) (by omega) (by omega) (by omega) (by omega) (by omega)) (fun v w hP => ?_)
          obtain ⟨rfl, s5, hw, o5, B5⟩ := hP
          have e50 : s5 0 = up1 (s4 0) 3 (f + 1) := by rw [o5 0 (by decide) (by decide) (by decide), up_same, up_ne _ (by decide)]
          have e59 : s5 9 = up1 (s 9) f j := by rw [o5 9 (by decide) (by decide) (by decide), up_ne _ (by decide), up_same, e49]
          refine s_iinc (p := 225) m_Mo_findLeads rfl rfl rfl ?_
          refine fi_step (pc' := 28) m_Mo_findLeads rfl rfl ?_
          refine ih (j + 1) (f + 1) _ w s5 _ (by omega) (by omega) (by omega) hw (kF_trans kk4 (kF_trans (kF_up9 _ _ _) (kF_trans (kF_up0 _ (Or.inl rfl) _) (kF_oth o5)))) B5 ?_ ?_
          · unfold ldI
            rw [e50, e59, up1_same, up1_ne _ (by decide), up1_ne _ (by decide), up1_same]
            refine ⟨by omega, by omega, n1, n2, n3, ?_, n5, by omega, fun d => ?_⟩
            · rw [n4]; unfold mnr; rw [n3, plist_up]
            · rw [hG4 d]
              constructor
              · intro q y y0 y1 yl; have := q y y0 y1 yl; unfold mnr; rw [yl, plist_up]; exact this
              · intro q y y0 y1 yl; have := q y y0 y1 yl; unfold mnr at this; rw [yl, plist_up] at this; exact this
          · rw [e59]
            refine leads_new hL j0 ⟨(els 6 (s4 0 4)).map (rwg (S 7) C), by rw [List.length_map]; exact n3, fun v hv => ?_, fun hd => n5 ?_⟩
            · obtain ⟨i, hi, rfl⟩ := List.mem_map.mp hv
              rw [← S_cut n1 hR6 n2] at hi
              exact rowsOf_mem.mpr ⟨i, (els_mem hi).1, (els_mem hi).2, rfl⟩
            · rw [n4, ← hd, ← detC_eq _ _ _ rfl (by rw [List.length_map, hJl, n3])]
              exact detC_congr (fun i _ q hq => by unfold rwg; rw [tr_in (hJ q hq).1 (hJ q hq).2])
theorem c_findLeads {R C : Nat} {w : ax_W} {s : mo_S} {r : Int → Int} (hfr : 4 ≤ fr) (hlo : 150 ≤ lo) (hw : RW w0 w s) (hB : Bg s r) (hR : s 0 1 = R) (hR6 : R ≤ 6) (hC : s 0 2 = C) (hC12 : C ≤ 12) (hg : ∀ i j : Int, 0 ≤ i → i < R → 0 ≤ j → j < C → ((s 7 (12 * i + j)).natAbs : Int) ≤ 1000000000000000000) :
    fin xs fr lo 159 0 (ax_ent [.ref 425] 3) [] w (Ret fun u w' => u = none ∧ ∃ s' r' f, RW w0 w' s' ∧ kF s s' ∧ Bg s' r' ∧ ldI (s 7) R s' r' f ∧ isLeads (rowsOf R C (s 7)) C (s' 9) f) := by
  have h64 := S_pow hR6
  refine fi_step (pc' := 1) m_Mo_findLeads rfl rfl ?_
  refine fi_step (pc' := 2) m_Mo_findLeads rfl rfl ?_
  refine r_put (p := 5) 3 m_Mo_findLeads rfl rfl (by assumption) (r_put3 _ _) rfl (fun w hw => ?_)
  refine fi_step (pc' := 6) m_Mo_findLeads rfl rfl ?_
  refine fi_step (pc' := 7) m_Mo_findLeads rfl rfl ?_
  refine r_put (p := 10) 4 m_Mo_findLeads rfl rfl (by assumption) (r_put4 _ _) rfl (fun w hw => ?_)
  refine fi_step (pc' := 11) m_Mo_findLeads rfl rfl ?_
  refine s_sipush (p := 14) m_Mo_findLeads rfl rfl rfl ?_
  refine s_lconst (p := 15) (v := 1) m_Mo_findLeads rfl rfl rfl ?_
  refine g_3 (p := 18) m_Mo_findLeads rfl inv_v (by decide) m_Mo_bigSet rfl rfl (by omega) (by omega) (Nat.le_of_ble_eq_true rfl) (Nat.le_of_ble_eq_true rfl) (RW_rcv hw _) (c_bigSet hw (Bg_up (Bg_up hB (by decide) (by decide) (by decide) _ _) (by decide) (by decide) (by decide) _ _) (by omega) (by omega) (by decide) (by decide)) (fun v w hP => ?_)
  obtain ⟨rfl, s1, hw, o1, B1⟩ := hP
  refine fi_step (pc' := 19) m_Mo_findLeads rfl rfl ?_
  refine s_sipush (p := 22) m_Mo_findLeads rfl rfl rfl ?_
  refine s_lconst (p := 23) (v := 1) m_Mo_findLeads rfl rfl rfl ?_
  refine g_3 (p := 26) m_Mo_findLeads rfl inv_v (by decide) m_Mo_bigSet rfl rfl (by omega) (by omega) (Nat.le_of_ble_eq_true rfl) (Nat.le_of_ble_eq_true rfl) (RW_rcv hw _) (c_bigSet hw B1 (by omega) (by omega) (by decide) (by decide)) (fun v w hP => ?_)
  obtain ⟨rfl, s2, hw, o2, B2⟩ := hP
  have k2 : kF s s2 := kF_trans (kF_up0 s (Or.inl rfl) 0) (kF_trans (kF_up0 _ (Or.inr rfl) 0) (kF_trans (kF_oth o1) (kF_oth o2)))
  have e7 : s2 7 = s 7 := k2.1 7 (by decide) (by decide) (by decide) (by decide) (by decide) (by decide)
  have e0 : s2 0 = up1 (up1 (s 0) 3 0) 4 0 := by rw [o2 0 (by decide) (by decide) (by decide), o1 0 (by decide) (by decide) (by decide), up_same, up_same]
  refine fi_step (pc' := 27) m_Mo_findLeads rfl rfl ?_
  refine fi_step (pc' := 28) m_Mo_findLeads rfl rfl ?_
  have hE : els 6 0 = [] := by decide
  refine fi_mono (lead_out (S := s2) (R := R) (C := C) hfr hlo (by rw [k2.2 1 (by decide) (by decide)]; exact hR) hR6 (by rw [k2.2 2 (by decide) (by decide)]; exact hC) hC12 (by rw [e7]; exact hg) 12 0 0 _ w s2 _ (by omega) (by omega) (by omega) hw (kF_refl s2) B2 ?_ (leads_none _)) ?_
  · unfold ldI
    rw [e0, up1_ne _ (by decide), up1_same, up1_same, up1_ne _ (by decide), up1_same, up1_same, hE]
    refine ⟨rfl, by omega, by omega, by omega, rfl, by unfold mnr; rw [hE]; rfl, by decide, by decide, fun d => ⟨fun hd y y0 y1 yl => ?_, fun h => ?_⟩⟩
    · unfold mnr; rw [yl, plist, detC]; exact hd
    · have := h 0 (by omega) (by omega) (by rw [hE]; rfl)
      unfold mnr at this; rw [hE] at this; exact this
  · rintro o w' ⟨v, rfl, rfl, s', r', f, g1, g2, g3, g4, g5⟩
    rw [e7] at g4 g5
    exact ⟨none, rfl, rfl, s', r', f, g1, kF_trans k2 g2, g3, g4, g5⟩
end LEADS
