/-! THE REFERENCE: the form in the columns of leads, first as stairs -/
/-- stairs in the first k rows of the form -/
def stT (r lead : Int → Int) (D : Int) (k f : Nat) : Prop := (∀ i : Nat, i < k → 0 < r (184 + 12 * i + lead i)) ∧ (∀ i e : Nat, i < k → e < i → r (184 + 12 * i + lead e) = 0) ∧ ∀ i e : Nat, i < k → e < f → 0 ≤ r (184 + 12 * i + lead e) ∧ r (184 + 12 * i + lead e) ≤ D
section BRING2
variable {xs : List Int32} {fr lo : Nat} {w0 : ax_W} {Q : Outcome → ax_W → Prop}
theorem bring2 {R f : Nat} {D b : Int} {S : mo_S} {V : List Vec} (hfr : 6 ≤ fr) (hlo : 230 ≤ lo) (e1 : S 0 1 = R) (hR : R ≤ 6) (h3 : S 0 3 = f) (hf : f ≤ 6) (D0 : 0 < D) (D1 : D ≤ MBND) (hl : ∀ k : Nat, k < f → 0 ≤ S 9 k ∧ S 9 k < 12) (hinj : ∀ e e' : Nat, e < f → e' < f → S 9 e = S 9 e' → e = e') :
    ∀ (d k : Nat) (y2 y3 : Option Value) (w : ax_W) (s : mo_S) (r : Int → Int), k + d = f → RW w0 w s → oth S s → Bg s r → r 276 = D → r 275 = b → spEq V (fam (tw r (S 9) f) k 0 ++ (fam (pw r k f) R 0 ++ fam (un D) (f - k) k)) → (∀ i e : Nat, i < R → e < f → 0 ≤ r (100 + 6 * i + e) ∧ r (100 + 6 * i + e) ≤ D) → (∀ i e : Nat, i < R → e < k → r (100 + 6 * i + e) = 0) → stT r (S 9) D k f →
    fin xs fr lo 160 70 [some (.ref 425), some (.int (jI k)), y2, y3] [] w (Ret fun u w' => u = none ∧ ∃ s' r', RW w0 w' s' ∧ oth S s' ∧ Bg s' r' ∧ r' 276 = D ∧ r' 275 = b ∧ spEq V (fam (tw r' (S 9) f) f 0) ∧ stT r' (S 9) D f f) := by
  intro d
  induction d with
  | zero =>
    intro k y2 y3 w s r hk hw ho hB hD hb hV hp hz hT
    have h3' : s 0 3 = f := by rw [ho 0 (by decide) (by decide) (by decide)]; exact h3
    obtain rfl : k = f := by omega
    refine fi_step (pc' := 71) m_Mo_bring rfl rfl ?_
    refine fi_step (pc' := 72) m_Mo_bring rfl rfl ?_
    refine r_get (p := 75) m_Mo_bring rfl rfl (by assumption) rfl ?_
    refine s_ic_ge (p := 78) m_Mo_bring rfl rfl (by omega) (by omega) (by omega) (by omega) (fun hbr => ?_) (fun hbr => False.elim (by omega))
    refine p_ret m_Mo_bring rfl rfl ?_
    exact ⟨rfl, s, r, hw, ho, hB, hD, hb, spEq_trans hV bring_end, hT⟩
  | succ d ih =>
    intro k y2 y3 w s r hk hw ho hB hD hb hV hp hz hT
    have h3' : s 0 3 = f := by rw [ho 0 (by decide) (by decide) (by decide)]; exact h3
    have e1' : s 0 1 = R := by rw [ho 0 (by decide) (by decide) (by decide)]; exact e1
    have e9 : s 9 = S 9 := ho 9 (by decide) (by decide) (by decide)
    refine fi_step (pc' := 71) m_Mo_bring rfl rfl ?_
    refine fi_step (pc' := 72) m_Mo_bring rfl rfl ?_
    refine r_get (p := 75) m_Mo_bring rfl rfl (by assumption) rfl ?_
    refine s_ic_ge (p := 78) m_Mo_bring rfl rfl (by omega) (by omega) (by omega) (by omega) (fun hbr => False.elim (by omega)) (fun hbr => ?_)
    refine fi_step (pc' := 79) m_Mo_bring rfl rfl ?_
    refine fi_step (pc' := 80) m_Mo_bring rfl rfl ?_
    refine bring_zero (S := s) (R0 := r) (k := k) (by omega) (by omega) e1' hR h3' hf ?_ f 0 w s r (by omega) hw (oth_refl s) hB (fun e' h => by omega) (fun j _ => rfl)
    intro w s1 r1 hw o1 B1 z1 k1
    have e11 : s1 0 1 = R := by rw [o1 0 (by decide) (by decide) (by decide)]; exact e1'
    refine fi_step (pc' := 109) m_Mo_bring rfl rfl ?_
    refine fi_step (pc' := 110) m_Mo_bring rfl rfl ?_
    refine fi_step (pc' := 111) m_Mo_bring rfl rfl ?_
    refine r_get (p := 114) m_Mo_bring rfl rfl (by assumption) rfl ?_
    refine fi_step (pc' := 115) m_Mo_bring rfl rfl ?_
    rw [e11]
    refine c_3 (p := 118) m_Mo_bring rfl inv_v (by decide) m_Mo_cell rfl rfl (by omega) (by omega) (Nat.le_of_ble_eq_true rfl) (Nat.le_of_ble_eq_true rfl) (RW_rcv hw _) c_cell ?_
    refine s_sipush (p := 121) m_Mo_bring rfl rfl rfl ?_
    refine g_3 (p := 124) m_Mo_bring rfl inv_v (by decide) m_Mo_bigCopy rfl rfl (by omega) (by omega) (Nat.le_of_ble_eq_true rfl) (Nat.le_of_ble_eq_true rfl) (RW_rcv hw _) (c_bigCopy hw B1 (by omega) (by omega) (by omega) (by omega) (by omega)) (fun v w hP => ?_)
    obtain ⟨rfl, s2, hw, o2, B2⟩ := hP
    obtain ⟨r2, B2, x2, y2', k2⟩ : ∃ r2, Bg s2 r2 ∧ r2 (100 + 6 * R + k) = D ∧ (∀ e : Nat, e < f → e ≠ k → r2 (100 + 6 * R + e) = 0) ∧ ∀ j : Int, (∀ e : Nat, e < f → j ≠ 100 + 6 * R + e) → r2 j = r j := ⟨_, B2, by rw [up1_same, k1 _ (fun e h => by omega)]; exact hD, fun e he hne => by rw [up1_ne _ (by omega)]; exact z1 e he, fun j hj => by rw [up1_ne _ (hj k (by omega))]; exact k1 j hj⟩
    have o12 := oth_trans o1 o2
    have pi2 : inP r2 D R k f := by
      intro i e hi h0 h1
      by_cases hiR : i = R
      · subst hiR
        by_cases hek : e = k
        · subst hek; rw [x2]; omega
        · rw [y2' e h1 hek]; omega
      · rw [k2 _ (fun e' h => by omega)]; exact hp i e (by omega) h1
    refine fi_step (pc' := 125) m_Mo_bring rfl rfl ?_
    refine fi_step (pc' := 126) m_Mo_bring rfl rfl ?_
    refine g_2 (p := 129) m_Mo_bring rfl inv_v (by decide) m_Mo_gather rfl rfl (by omega) (by omega) (Nat.le_of_ble_eq_true rfl) (Nat.le_of_ble_eq_true rfl) (RW_rcv hw _) (c_gather (k := k) (R := R) (f := f) (D := D) (by omega) (by omega) hw B2 (by rw [o12 0 (by decide) (by decide) (by decide)]; exact e1') hR (by rw [o12 0 (by decide) (by decide) (by decide)]; exact h3') hf (by omega) (by rw [k2 _ (fun e h => by omega)]; exact hD) D0 D1 pi2 ⟨R, by omega, by rw [x2]; omega⟩) (fun v w hP => ?_)
    obtain ⟨n, s3, r3, rfl, hn, hw, o3, B3, d3, p3, n3, z3, sp3, k3⟩ := hP
    have o13 := oth_trans o12 o3
    have e93 : s3 9 = S 9 := by rw [o13 9 (by decide) (by decide) (by decide)]; exact e9
    have low : ∀ i e : Nat, i ≤ R → e < k → r3 (100 + 6 * i + e) = 0 := by
      intro i e hi he
      rw [k3 _ (by omega) (fun i' e' _ _ _ => by omega)]
      by_cases hiR : i = R
      · subst hiR; exact y2' e (by omega) (by omega)
      · rw [k2 _ (fun e' h => by omega)]; exact hz i e (by omega) he
    have frm : ∀ j : Int, 142 ≤ j → j < 268 → r3 j = r j := by
      intro j j0 j1
      rw [k3 j (Or.inl j1) (fun i' e' _ _ _ => by omega), k2 j (fun e' h => by omega)]
    have all3 : ∀ i e : Nat, i ≤ R → e < f → 0 ≤ r3 (100 + 6 * i + e) ∧ r3 (100 + 6 * i + e) ≤ D := by
      intro i e hi he
      by_cases hek : e < k
      · rw [low i e hi hek]; omega
      · exact p3 i e hi (by omega) he
    refine fi_step (pc' := 130) m_Mo_bring rfl rfl ?_
    refine fi_step (pc' := 131) m_Mo_bring rfl rfl ?_
    refine fi_step (pc' := 132) m_Mo_bring rfl rfl ?_
    refine bring_copy (S := s3) (R0 := r3) (k := k) (n := n) (by omega) (by omega) (by rw [o13 0 (by decide) (by decide) (by decide)]; exact e1') hR (by rw [o13 0 (by decide) (by decide) (by decide)]; exact h3') hf (by omega) hn (by rw [e93]; exact hl) (by rw [e93]; exact hinj) ?_ f 0 w s3 r3 (by omega) hw (oth_refl s3) B3 (fun e' h => by omega) (fun e' h => by omega) (fun j _ => rfl)
    rw [e93]
    intro w s4 r4 y3' hw o4 B4 t4 n4 k4
    have keepT : ∀ i e : Nat, i < k → e < f → r4 (184 + 12 * i + S 9 e) = r (184 + 12 * i + S 9 e) := by
      intro i e hi he
      have l1 := hl e he
      rw [k4 _ (fun e' h => by have := hl e' h; omega)]; exact frm _ (by omega) (by omega)
    have keepT3 : ∀ i e : Nat, i < k → e < f → r4 (184 + 12 * i + S 9 e) = r3 (184 + 12 * i + S 9 e) := by
      intro i e hi he
      have l1 := hl e he
      exact k4 _ (fun e' h => by have := hl e' h; omega)
    have keepP : ∀ i e : Nat, i < R → i ≠ n → e < f → r4 (100 + 6 * i + e) = r3 (100 + 6 * i + e) := fun i e hi hne he => k4 _ (fun e' h => by have := hl e' h; omega)
    have hV4 : spEq V (fam (tw r4 (S 9) f) (k + 1) 0 ++ (fam (pw r4 (k + 1) f) R 0 ++ fam (un D) (f - (k + 1)) (k + 1))) := by
      have hA : fam (tw r3 (S 9) f) k 0 = fam (tw r (S 9) f) k 0 := fam_congr (fun i _ hi => tw_congr (fun e he => by
        have l1 := hl e he
        exact frm _ (by omega) (by omega)))
      refine spEq_trans hV (spEq_trans (bring_extra (r1 := r2) (by omega) (fun i e hi h0 h1 => k2 _ (fun e' h => by omega)) x2 (fun e h0 h1 => y2' e h1 (by omega)) _) (spEq_trans (sp3 _) ?_))
      rw [← hA]
      exact bring_take (by omega) hn z3 (fun e he => low n e hn he) t4 keepT3 n4 keepP
    refine s_iinc (p := 193) m_Mo_bring rfl rfl rfl ?_
    refine fi_step (pc' := 70) m_Mo_bring rfl rfl ?_
    refine ih (k + 1) _ _ w s4 r4 (by omega) hw (oth_trans ho (oth_trans o13 o4)) B4 ?_ ?_ hV4 (fun i e hi he => ?_) (fun i e hi he => ?_) ⟨fun i hi => ?_, fun i e hi he => ?_, fun i e hi he => ?_⟩
    · rw [k4 _ (fun e' h => by have := hl e' h; omega)]; exact d3
    · rw [k4 _ (fun e' h => by have := hl e' h; omega), k3 _ (by omega) (fun i' e' _ _ _ => by omega), k2 _ (fun e' h => by omega)]; exact hb
    · by_cases e' : i = n
      · subst e'; rw [n4 e he]; exact all3 R e (by omega) he
      · rw [keepP i e hi e' he]; exact all3 i e (by omega) he
    · by_cases e' : i = n
      · subst e'; rw [n4 e (by omega)]
        by_cases hek : e = k
        · subst hek; exact z3 R (by omega) (by omega)
        · exact low R e (by omega) (by omega)
      · rw [keepP i e hi e' (by omega)]
        by_cases hek : e = k
        · subst hek; exact z3 i (by omega) e'
        · exact low i e (by omega) (by omega)
    · by_cases e' : i = k
      · subst e'; rw [t4 i (by omega)]; have := p3 n i hn (by omega) (by omega); omega
      · rw [keepT i i (by omega) (by omega)]; exact hT.1 i (by omega)
    · by_cases e' : i = k
      · subst e'; rw [t4 e (by omega)]; exact low n e hn he
      · rw [keepT i e (by omega) (by omega)]; exact hT.2.1 i e (by omega) he
    · by_cases e' : i = k
      · subst e'; rw [t4 e he]; exact all3 n e hn he
      · rw [keepT i e (by omega) he]; exact hT.2.2 i e (by omega) he
theorem c_bring {R f : Nat} {C D b : Int} {w : ax_W} {s : mo_S} {r : Int → Int} (hfr : 6 ≤ fr) (hlo : 230 ≤ lo) (hw : RW w0 w s) (hB : Bg s r) (e1 : s 0 1 = R) (R0 : 1 ≤ R) (hR : R ≤ 6) (h3 : s 0 3 = f) (hf : f ≤ 6) (hb : r 275 = b) (hD : r 276 = D) (D0 : 0 < D) (D1 : D ≤ MBND) (hC : C ≤ 12) (hl : ∀ k : Nat, k < f → 0 ≤ s 9 k ∧ s 9 k < C) (hinj : ∀ e e' : Nat, e < f → e' < f → s 9 e = s 9 e' → e = e') (hg : ∀ i j : Int, 0 ≤ i → i < R → 0 ≤ j → j < C → ((s 7 (12 * i + j)).natAbs : Int) ≤ 1000000000000000000) (hdv : ∀ d, (∀ l : List Vec, l.length = (plist (s 9) f).length → (∀ v, v ∈ l → v ∈ rowsOf R C (s 7)) → d ∣ det l (plist (s 9) f)) → d ∣ D) :
    fin xs fr lo 160 0 (ax_ent [.ref 425] 4) [] w (Ret fun u w' => u = none ∧ ∃ s' r', RW w0 w' s' ∧ oth s s' ∧ Bg s' r' ∧ r' 276 = D ∧ r' 275 = b ∧ spEq ((rowsOf R C (s 7)).map (prj (s 9) f)) (fam (tw r' (s 9) f) f 0) ∧ stT r' (s 9) D f f) := by
  have hl' : ∀ k : Nat, k < f → 0 ≤ s 9 k ∧ s 9 k < 12 := fun k hk => by have := hl k hk; omega
  refine fi_step (pc' := 1) m_Mo_bring rfl rfl ?_
  refine fi_step (pc' := 2) m_Mo_bring rfl rfl ?_
  refine fi_step (pc' := 3) m_Mo_bring rfl rfl ?_
  refine fi_step (pc' := 4) m_Mo_bring rfl rfl ?_
  refine r_get (p := 7) m_Mo_bring rfl rfl (by assumption) rfl ?_
  refine s_ic_ge (p := 10) m_Mo_bring rfl rfl (by omega) (by omega) (by omega) (by omega) (fun hbr => False.elim (by omega)) (fun hbr => ?_)
  refine fi_step (pc' := 11) m_Mo_bring rfl rfl ?_
  refine fi_step (pc' := 12) m_Mo_bring rfl rfl ?_
  refine bring1 (S := s) (R := R) (f := f) (D := D) (R0 := r) (by omega) (by omega) e1 hR h3 hf D0 D1 hl' (fun i k hi hk => by have := hl k hk; exact hg i _ (by omega) (by omega) this.1 this.2) ?_ ((R - 0) * 7 + (f - 0)) 0 0 w s r (by omega) (by omega) (by omega) hw (oth_refl s) hB hD (fun i' k' _ _ h => by omega) (fun _ _ _ _ => rfl)
  intro w s1 r1 y2 y3 hw o1 B1 d1 v1 k1
  have e91 : s1 9 = s 9 := o1 9 (by decide) (by decide) (by decide)
  refine fi_step (pc' := 69) m_Mo_bring rfl rfl ?_
  refine fi_step (pc' := 70) m_Mo_bring rfl rfl ?_
  have := bring2 (xs := xs) (fr := fr) (lo := lo) (w0 := w0) (S := s1) (R := R) (f := f) (D := D) (b := b) (V := (rowsOf R C (s 7)).map (prj (s 9) f)) hfr hlo (by rw [o1 0 (by decide) (by decide) (by decide)]; exact e1) hR (by rw [o1 0 (by decide) (by decide) (by decide)]; exact h3) hf D0 D1 (by rw [e91]; exact hl') (by rw [e91]; exact hinj) f 0 y2 y3 w s1 r1 (by omega) hw (oth_refl s1) B1 d1 (by rw [k1 _ (by omega) (by omega) (by omega)]; exact hb) (by rw [e91]; exact bring_start hdv hl hinj v1) (fun i e hi he => by
    rw [v1 i e hi he]
    have a := Int.emod_nonneg (s 7 (12 * i + s 9 e)) (show D ≠ 0 by omega)
    have c := Int.emod_lt_of_pos (s 7 (12 * i + s 9 e)) D0
    omega) (fun i e _ he => by omega) ⟨fun i hi => by omega, fun i e hi => by omega, fun i e hi => by omega⟩
  rw [e91] at this
  refine fi_mono this ?_
  rintro o w' ⟨v, rfl, hv, s', r', g1, g2, g3⟩
  exact ⟨v, rfl, hv, s', r', g1, oth_trans o1 g2, g3⟩
end BRING2
