/-! THE LAW: what calls come to, for class and reference alike -/
/-- numbers, rows and columns of six matrices, what is printed -/
abbrev AB : Type := (Int → Int) × (Int → Int) × (Int → Int) × List Int
def absC (s : mo_S) : AB := (rf s 4, rf s 5, rf s 6, seg (s 4) 0 (s 0 0).toNat)
def absR (s : mo_S) : AB := (s 4, s 5, s 6, seg (s 10) 0 (s 0 5).toNat)
def gvA (α : AB) (to R C : Int) (g : Int → Int → Int) : AB := (newN α.1 to R C g, up1 α.2.1 to R, up1 α.2.2.1 to C, α.2.2.2)
def prA (α : AB) (l : List Int) : AB := (α.1, α.2.1, α.2.2.1, l)
theorem gvA_congr {α : AB} {to R C : Int} {g h : Int → Int → Int} (e : ∀ i j, 0 ≤ i → i < R → 0 ≤ j → j < C → g i j = h i j) : gvA α to R C g = gvA α to R C h := by
  unfold gvA; rw [newN_congr e]
/-- what a call of the class comes to -/
def CO (w0 : ax_W) (L Z : Nat) (a : Int) (α : AB) (u : Option Value) (w' : ax_W) : Prop := ∃ s' v', CW w0 w' s' v' L Z ∧ okC s' v' ∧ absC s' = α ∧ u = some (.int (jI a))
/-- the same of the reference: thrown t -/
def RX (w : ax_W) (t : Int) (α : AB) (w' : ax_W) : Prop := ∃ sr' r', RW w w' sr' ∧ Bg sr' r' ∧ sr' 0 0 = t ∧ absR sr' = α ∧ 0 ≤ sr' 0 5
def RO (w : ax_W) (t b : Int) (α : AB) (u : Option Value) (w' : ax_W) : Prop := RX w t α w' ∧ u = some (.int (jI b))
theorem seg_get (f : Int → Int) : ∀ (l : Nat) (n : Int) (i : Nat), i < l → (seg f n l)[i]? = some (f (n + i))
  | 0, _, _, h => by omega
  | l + 1, n, 0, _ => by rw [seg]; simp
  | l + 1, n, i + 1, h => by
    rw [seg, List.getElem?_cons_succ, seg_get f l (n + 1) i (by omega)]
    congr 2
    omega
theorem CO_same {w0 : ax_W} {s : mo_S} {v : Nat → Int} {L Z : Nat} {ans : Int} {u : Option Value} {w' : ax_W} (h : sameC w0 s v L Z ans u w') : CO w0 L Z ans (absC s) u w' := by
  obtain ⟨s', v', h1, h2, h3, h4, h5⟩ := h
  refine ⟨s', v', h1, h2, ?_, h5⟩
  unfold absC; rw [h4, h3.1, h3.2]
/-- a matrix is given, or it is too large -/
def gvO (α : AB) (to R C : Int) (g : Int → Int → Int) (ans b : Int) (α' : AB) : Prop := (fits R C g ∧ b = ans ∧ α' = gvA α to R C g) ∨ (¬ fits R C g ∧ b = -3 ∧ α' = α)
theorem gvO_unique {α α' β' : AB} {to R C ans b c : Int} {g h : Int → Int → Int} (e : ∀ i j, 0 ≤ i → i < R → 0 ≤ j → j < C → g i j = h i j) (h1 : gvO α to R C g ans b α') (h2 : gvO α to R C h ans c β') : b = c ∧ α' = β' := by
  have hf := fits_congr e
  rcases h1 with ⟨a1, a2, a3⟩ | ⟨a1, a2, a3⟩ <;> rcases h2 with ⟨b1, b2, b3⟩ | ⟨b1, b2, b3⟩
  · exact ⟨a2.trans b2.symm, by rw [a3, b3, gvA_congr e]⟩
  · exact absurd (hf.mp a1) b1
  · exact absurd (hf.mpr b1) a1
  · exact ⟨a2.trans b2.symm, a3.trans b3.symm⟩
theorem CO_made {w0 : ax_W} {s : mo_S} {L Z : Nat} {to R C ans : Int} {g h : Int → Int → Int} {u : Option Value} {w' : ax_W} (e : ∀ i j, 0 ≤ i → i < R → 0 ≤ j → j < C → g i j = h i j) (hm : madeC w0 s L Z to R C g ans u w') : ∃ b α', gvO (absC s) to R C h ans b α' ∧ (b = ans ∨ b = -3) ∧ CO w0 L Z b α' u w' := by
  obtain ⟨s', v', h1, h2, h3, h4⟩ := hm
  have hf := fits_congr e
  rcases h4 with ⟨f1, f2, f3⟩ | ⟨f1, f2, f3⟩
  · refine ⟨ans, _, Or.inl ⟨hf.mp f1, rfl, rfl⟩, Or.inl rfl, s', v', h1, h2, ?_, f2⟩
    unfold absC gvA
    rw [f3.1, f3.2.1, f3.2.2, h3.1, h3.2, newN_congr e]
  · refine ⟨-3, _, Or.inr ⟨fun q => f1 (hf.mpr q), rfl, rfl⟩, Or.inr rfl, s', v', h1, h2, ?_, f2⟩
    unfold absC; rw [f3, h3.1, h3.2]
theorem CO_print {w0 : ax_W} {s : mo_S} {L Z : Nat} {l : List Int} {u : Option Value} {w' : ax_W} (h : prtC w0 s L Z l u w') : l.length ≤ 256 ∧ CO w0 L Z (l.length : Nat) (prA (absC s) l) u w' := by
  obtain ⟨s', v', h1, h2, h3, h4, h5⟩ := h
  have hl1 := h4.1
  have hb := h2.2.2.2.2.2.2
  refine ⟨by omega, s', v', h1, h2, ?_, h5⟩
  unfold absC prA
  rw [h3, hl1, Int.toNat_natCast, h4.2]
section RXS
variable {w w' : ax_W} {s : mo_S} {r : Int → Int} {u : Option Value}
theorem RX_up (t : Int) (h : RW w w' (up s 0 0 t)) (hB : Bg s r) (h5 : 0 ≤ s 0 5) : RX w t (absR s) w' := by
  refine ⟨_, r, h, Bg_up0 hB t, by rw [up_same, up1_same], ?_, by rw [up_same, up1_ne _ (by decide)]; exact h5⟩
  unfold absR
  rw [up_ne _ (by decide), up_ne _ (by decide), up_ne _ (by decide), up_ne _ (by decide), up_same, up1_ne _ (by decide)]
theorem RX_pub {t : Int} (h : pub s w w' t none) (h5 : 0 ≤ s 0 5) : RX w t (absR s) w' := by
  obtain ⟨s', r', h1, h2, h3, h4, h6, h7⟩ := h
  refine ⟨s', r', h1, h2, h4, ?_, by rw [h7]; exact h5⟩
  unfold absR
  rw [h3.1, h3.2.1, h3.2.2, h6, h7]
theorem RX_pubS {t : Int} {l : List Int} (h : pub s w w' t (some l)) : RX w t (prA (absR s) l) w' := by
  obtain ⟨s', r', h1, h2, h3, h4, h6⟩ := h
  have h7 : s' 0 5 = l.length ∧ seg (s' 10) 0 l.length = l := h6
  refine ⟨s', r', h1, h2, h4, ?_, by omega⟩
  unfold absR prA
  rw [h3.1, h3.2.1, h3.2.2, h7.1, Int.toNat_natCast, h7.2]
theorem RX_given {s' : mo_S} {r' : Int → Int} {to R C : Int} {g : Int → Int → Int} (h1 : RW w w' s') (h2 : Bg s' r') (h0 : s' 0 0 = 0) (h10 : s' 10 = s 10) (h05 : s' 0 5 = s 0 5) (h5 : 0 ≤ s 0 5) (hg : given s s' to R C g) : RX w 0 (gvA (absR s) to R C g) w' := by
  refine ⟨s', r', h1, h2, h0, ?_, by rw [h05]; exact h5⟩
  unfold absR gvA
  rw [hg.1, hg.2.1, hg.2.2, h10, h05]
theorem RX_keep {s' : mo_S} {r' : Int → Int} (h1 : RW w w' s') (h2 : Bg s' r') (h0 : s' 0 0 = 0) (h10 : s' 10 = s 10) (h05 : s' 0 5 = s 0 5) (h5 : 0 ≤ s 0 5) (hk : keepM s s') : RX w 0 (absR s) w' := by
  refine ⟨s', r', h1, h2, h0, ?_, by rw [h05]; exact h5⟩
  unfold absR
  rw [hk.1, hk.2.1, hk.2.2, h10, h05]
theorem keepN_0 {s' : mo_S} (h : keepN (up s 0 0 0) s') : s' 0 0 = 0 ∧ s' 10 = s 10 ∧ s' 0 5 = s 0 5 := by
  refine ⟨?_, ?_, ?_⟩
  · rw [h 0 (by decide) (by decide) (by decide) (by decide) (by decide) (by decide), up_same, up1_same]
  · rw [h 10 (by decide) (by decide) (by decide) (by decide) (by decide) (by decide), up_ne _ (by decide)]
  · rw [h 0 (by decide) (by decide) (by decide) (by decide) (by decide) (by decide), up_same, up1_ne _ (by decide)]
theorem RO_made {to R C ans : Int} {g : Int → Int → Int} (h : made s w to R C g ans u w') (h5 : 0 ≤ s 0 5) : ∃ b α', gvO (absR s) to R C g ans b α' ∧ RO w 0 b α' u w' := by
  obtain ⟨s', r', h1, h2, h3, h4⟩ := h
  obtain ⟨k0, k10, k5⟩ := keepN_0 h3
  rcases h4 with ⟨f1, f2, f3⟩ | ⟨f1, f2, f3⟩
  · exact ⟨ans, _, Or.inl ⟨f1, rfl, rfl⟩, RX_given h1 h2 k0 k10 k5 h5 f3, f2⟩
  · exact ⟨-3, _, Or.inr ⟨f1, rfl, rfl⟩, RX_keep h1 h2 k0 k10 k5 h5 f3, f2⟩
theorem RO_madeF {to R C ans : Int} {g : Int → Int → Int} (h : madeF s w to R C g ans u w') (h5 : 0 ≤ s 0 5) : ∃ b α', gvO (absR s) to R C g ans b α' ∧ RO w 0 b α' u w' := by
  obtain ⟨s', r', h1, h2, ⟨k0, k10, k5⟩, h4⟩ := h
  rcases h4 with ⟨f1, f2, f3⟩ | ⟨f1, f2, f3⟩
  · exact ⟨ans, _, Or.inl ⟨f1, rfl, rfl⟩, RX_given h1 h2 k0 k10 k5 h5 f3, f2⟩
  · exact ⟨-3, _, Or.inr ⟨f1, rfl, rfl⟩, RX_keep h1 h2 k0 k10 k5 h5 f3, f2⟩
end RXS
/-! the meaning of each call -/
def gmA (α : AB) (m : Int) : Int → Int := fun x => α.1 (36 * m + 6 * (x / 12) + x % 12)
def gBA (α : AB) (m : Int) : Int → Int := fun x => if x % 12 < α.2.1 m then α.1 (36 * m + 6 * (x % 12) + x / 12) else if x % 12 - α.2.1 m = x / 12 then 1 else 0
def m_combine (α : AB) (to a x b y c : Int) (α' : AB) : Prop := (¬ (α.2.1 a = α.2.1 b ∧ α.2.2.1 a = α.2.2.1 b) ∧ c = -2 ∧ α' = α) ∨ ((α.2.1 a = α.2.1 b ∧ α.2.2.1 a = α.2.2.1 b) ∧ gvO α to (α.2.1 a) (α.2.2.1 a) (fun i j => α.1 (36 * a + 6 * i + j) * x + α.1 (36 * b + 6 * i + j) * y) 0 c α')
def m_multiply (α : AB) (to a b c : Int) (α' : AB) : Prop := (¬ α.2.2.1 a = α.2.1 b ∧ c = -2 ∧ α' = α) ∨ (α.2.2.1 a = α.2.1 b ∧ gvO α to (α.2.1 a) (α.2.2.1 b) (fun i j => sumP (fun k => α.1 (36 * a + 6 * i + k) * α.1 (36 * b + 6 * k + j)) (α.2.2.1 a).toNat) 0 c α')
def m_rank (α : AB) (m c : Int) (α' : AB) : Prop := ∃ q : Nat, isRank (gmA α m) (α.2.1 m).toNat (α.2.2.1 m).toNat q ∧ c = q ∧ α' = α
def m_hermite (α : AB) (to a c : Int) (α' : AB) : Prop := ∃ (f : Nat) (lead : Int → Int) (X : Nat → Vec), isForm (α.2.1 a).toNat (α.2.2.1 a) (gmA α a) f lead X ∧ gvO α to (α.2.1 a) (α.2.2.1 a) (fun i j => if i < f then X i.toNat j else 0) f c α'
def m_kernel (α : AB) (to a c : Int) (α' : AB) : Prop := ∃ (f n : Nat) (lead : Int → Int) (X : Nat → Vec), isForm (α.2.2.1 a).toNat (α.2.1 a + α.2.2.1 a) (gBA α a) f lead X ∧ isFrom lead f (α.2.1 a) n ∧ ((n = f ∧ c = 0 ∧ α' = α) ∨ (n < f ∧ gvO α to (f - n : Nat) (α.2.2.1 a) (fun i j => X (n + i.toNat) (α.2.1 a + j)) (f - n : Nat) c α'))
def m_solve (α : AB) (to a b c : Int) (α' : AB) : Prop := (¬ (α.2.2.1 b = 1 ∧ α.2.1 b = α.2.1 a) ∧ c = -2 ∧ α' = α) ∨ ((α.2.2.1 b = 1 ∧ α.2.1 b = α.2.1 a) ∧ ∃ (f n : Nat) (lead : Int → Int) (X : Nat → Vec), isForm (α.2.2.1 a).toNat (α.2.1 a + α.2.2.1 a) (gBA α a) f lead X ∧ isFrom lead f (α.2.1 a) n ∧ (∀ k : Nat, k < f → 0 ≤ lead k) ∧ ((noSol (rowsOf (α.2.2.1 a).toNat (α.2.1 a + α.2.2.1 a) (gBA α a)) (α.2.1 a) (fun j => α.1 (36 * b + 6 * j)) ∧ c = 0 ∧ α' = α) ∨ (∃ x, isSol (rowsOf (α.2.2.1 a).toNat (α.2.1 a + α.2.2.1 a) (gBA α a)) (α.2.1 a) (fun j => α.1 (36 * b + 6 * j)) f n lead X x ∧ gvO α to (α.2.2.1 a) 1 (fun i _ => x (α.2.1 a + i)) 1 c α')))
/-- a list is printed -/
def prO (α : AB) (l : List Int) (c : Int) (α' : AB) : Prop := c = (l.length : Nat) ∧ α' = prA α l
def m_determinant (α : AB) (m c : Int) (α' : AB) : Prop := (α.2.1 m ≠ α.2.2.1 m ∧ c = -2 ∧ α' = α) ∨ (α.2.1 m = α.2.2.1 m ∧ prO α (sayS (mm (gmA α m) (2 ^ (α.2.1 m).toNat - 1) (2 ^ (α.2.1 m).toNat - 1))) c α')
def m_divisor (α : AB) (m k c : Int) (α' : AB) : Prop := (¬ (1 ≤ k ∧ k ≤ α.2.1 m ∧ k ≤ α.2.2.1 m) ∧ c = -1 ∧ α' = α) ∨ ((1 ≤ k ∧ k ≤ α.2.1 m ∧ k ≤ α.2.2.1 m) ∧ ∃ d, isD (gmA α m) (α.2.1 m).toNat (α.2.2.1 m).toNat k.toNat d ∧ prO α (sayS d) c α')
def m_factor (α : AB) (m k c : Int) (α' : AB) : Prop := (¬ (1 ≤ k ∧ k ≤ α.2.1 m ∧ k ≤ α.2.2.1 m) ∧ c = -1 ∧ α' = α) ∨ ((1 ≤ k ∧ k ≤ α.2.1 m ∧ k ≤ α.2.2.1 m) ∧ ∃ d, isD (gmA α m) (α.2.1 m).toNat (α.2.2.1 m).toNat k.toNat d ∧ ((d = 0 ∧ c = -1 ∧ α' = α) ∨ (d ≠ 0 ∧ ∃ e, isD (gmA α m) (α.2.1 m).toNat (α.2.2.1 m).toNat (k.toNat - 1) e ∧ prO α (sayS (d / e)) c α')))
def m_inverse (α : AB) (m i j c : Int) (α' : AB) : Prop := (α.2.1 m ≠ α.2.2.1 m ∧ c = -2 ∧ α' = α) ∨ (α.2.1 m = α.2.2.1 m ∧ ¬ (0 ≤ i ∧ i < α.2.1 m ∧ 0 ≤ j ∧ j < α.2.1 m) ∧ c = -1 ∧ α' = α) ∨ (α.2.1 m = α.2.2.1 m ∧ (0 ≤ i ∧ i < α.2.1 m ∧ 0 ≤ j ∧ j < α.2.1 m) ∧ ∃ d a, d = mm (gmA α m) (2 ^ (α.2.1 m).toNat - 1) (2 ^ (α.2.1 m).toNat - 1) ∧ a = (if (i + j) % 2 = 1 then - mm (gmA α m) (2 ^ (α.2.1 m).toNat - 1 - 2 ^ j.toNat) (2 ^ (α.2.1 m).toNat - 1 - 2 ^ i.toNat) else mm (gmA α m) (2 ^ (α.2.1 m).toNat - 1 - 2 ^ j.toNat) (2 ^ (α.2.1 m).toNat - 1 - 2 ^ i.toNat)) ∧ ((d = 0 ∧ c = -1 ∧ α' = α) ∨ (d ≠ 0 ∧ prO α (fracS (frN a d) a d) c α')))
def m_characteristic (α : AB) (m k c : Int) (α' : AB) : Prop := (α.2.1 m ≠ α.2.2.1 m ∧ c = -2 ∧ α' = α) ∨ (α.2.1 m = α.2.2.1 m ∧ ¬ (0 ≤ k ∧ k ≤ α.2.1 m) ∧ c = -1 ∧ α' = α) ∨ (α.2.1 m = α.2.2.1 m ∧ (0 ≤ k ∧ k ≤ α.2.1 m) ∧ prO α (sayS (if (α.2.1 m - k) % 2 = 1 then - csum (gmA α m) (α.2.1 m - k).toNat (2 ^ (α.2.1 m).toNat) else csum (gmA α m) (α.2.1 m - k).toNat (2 ^ (α.2.1 m).toNat))) c α')
def m_check (α : AB) (_m c : Int) (α' : AB) : Prop := c = 1 ∧ α' = α
/-! each has one answer -/
theorem u_combine {α α' β' : AB} {to a x b y c d : Int} (h : m_combine α to a x b y c α') (h' : m_combine α to a x b y d β') : c = d ∧ α' = β' := by
  rcases h with ⟨a1, a2, a3⟩ | ⟨a1, a2⟩ <;> rcases h' with ⟨b1, b2, b3⟩ | ⟨b1, b2⟩
  · exact ⟨a2.trans b2.symm, a3.trans b3.symm⟩
  · exact absurd b1 a1
  · exact absurd a1 b1
  · exact gvO_unique (fun _ _ _ _ _ _ => rfl) a2 b2
theorem u_multiply {α α' β' : AB} {to a b c d : Int} (h : m_multiply α to a b c α') (h' : m_multiply α to a b d β') : c = d ∧ α' = β' := by
  rcases h with ⟨a1, a2, a3⟩ | ⟨a1, a2⟩ <;> rcases h' with ⟨b1, b2, b3⟩ | ⟨b1, b2⟩
  · exact ⟨a2.trans b2.symm, a3.trans b3.symm⟩
  · exact absurd b1 a1
  · exact absurd a1 b1
  · exact gvO_unique (fun _ _ _ _ _ _ => rfl) a2 b2
theorem u_rank {α α' β' : AB} {m c d : Int} (h : m_rank α m c α') (h' : m_rank α m d β') : c = d ∧ α' = β' := by
  obtain ⟨q, h1, h2, h3⟩ := h
  obtain ⟨q', k1, k2, k3⟩ := h'
  have := isRank_unique h1 k1
  subst this
  exact ⟨h2.trans k2.symm, h3.trans k3.symm⟩
/-- two forms of one lattice -/
theorem isForm_unique {R : Nat} {C : Int} {g lead lead' : Int → Int} {f f' : Nat} {X X' : Nat → Vec} (h : isForm R C g f lead X) (h' : isForm R C g f' lead' X') : f = f' ∧ ∀ i : Nat, i < f → lead i = lead' i ∧ X i = X' i := by
  have := form_unique h.1 h.2.1 h'.1 h'.2.1 (by rw [hl_vv, hl_vv]; exact spEq_trans h.2.2 (spEq_symm h'.2.2))
  obtain ⟨e, k⟩ := hl_inj this
  exact ⟨e, fun i hi => k i (by omega) (by omega)⟩
theorem isForm_le {R : Nat} {C : Int} {g lead : Int → Int} {f : Nat} {X : Nat → Vec} (h : isForm R C g f lead X) : f ≤ R := by
  refine Classical.byContradiction (fun hne => ?_)
  have hd := det_tri (ech_tri h.1)
  have hp := (lpr_pos (fun q hq => (ech_zero h.1 hq).1)).1
  rw [hl_vv] at hd
  have := det_more (A := rowsOf R C g) (vs := fam X f 0) (J := (hl (fun k => lead k) X f 0).map Prod.fst) (fun v hv => (h.2.2 v).mp (sp_mem hv)) (by rw [rowsOf_len, fam_len]; omega)
  omega
theorem isFrom_unique {lead lead' : Int → Int} {f n n' : Nat} {R : Int} (h : isFrom lead f R n) (h' : isFrom lead' f R n') (e : ∀ i : Nat, i < f → lead i = lead' i) : n = n' := by
  obtain ⟨a1, a2, a3⟩ := h
  obtain ⟨b1, b2, b3⟩ := h'
  rcases Nat.lt_trichotomy n n' with k | k | k
  · have x := b2 n k
    have y := a3 n (Nat.le_refl _) (by omega)
    rw [e n (by omega)] at y
    omega
  · exact k
  · have x := a2 n' k
    have y := b3 n' (Nat.le_refl _) (by omega)
    rw [e n' (by omega)] at x
    omega
theorem u_hermite {α α' β' : AB} {to a c d : Int} (h : m_hermite α to a c α') (h' : m_hermite α to a d β') : c = d ∧ α' = β' := by
  obtain ⟨f, lead, X, h1, h2⟩ := h
  obtain ⟨f', lead', X', k1, k2⟩ := h'
  obtain ⟨e, hx⟩ := isForm_unique h1 k1
  subst e
  refine gvO_unique (fun i j i0 _ _ _ => ?_) h2 k2
  by_cases hi : i < f
  · rw [if_pos hi, if_pos hi, (hx i.toNat (by omega)).2]
  · rw [if_neg hi, if_neg hi]
theorem u_kernel {α α' β' : AB} {to a c d : Int} (h : m_kernel α to a c α') (h' : m_kernel α to a d β') : c = d ∧ α' = β' := by
  obtain ⟨f, n, lead, X, h1, h2, h3⟩ := h
  obtain ⟨f', n', lead', X', k1, k2, k3⟩ := h'
  obtain ⟨e, hx⟩ := isForm_unique h1 k1
  subst e
  have en := isFrom_unique h2 k2 (fun i hi => (hx i hi).1)
  subst en
  rcases h3 with ⟨a1, a2, a3⟩ | ⟨a1, a2⟩ <;> rcases k3 with ⟨b1, b2, b3⟩ | ⟨b1, b2⟩
  · exact ⟨a2.trans b2.symm, a3.trans b3.symm⟩
  · omega
  · omega
  · exact gvO_unique (fun i j i0 i1 _ _ => by rw [(hx (n + i.toNat) (by omega)).2]) a2 b2
theorem u_solve {α α' β' : AB} {to a b c d : Int} (h : m_solve α to a b c α') (h' : m_solve α to a b d β') : c = d ∧ α' = β' := by
  rcases h with ⟨a1, a2, a3⟩ | ⟨a1, f, n, lead, X, h1, h2, h0, h3⟩ <;> rcases h' with ⟨b1, b2, b3⟩ | ⟨b1, f', n', lead', X', k1, k2, k0, k3⟩
  · exact ⟨a2.trans b2.symm, a3.trans b3.symm⟩
  · exact absurd b1 a1
  · exact absurd a1 b1
  · obtain ⟨e, hx⟩ := isForm_unique h1 k1
    subst e
    have en := isFrom_unique h2 k2 (fun i hi => (hx i hi).1)
    subst en
    rcases h3 with ⟨a1, a2, a3⟩ | ⟨x, a1, a2⟩ <;> rcases k3 with ⟨b1, b2, b3⟩ | ⟨y, b1, b2⟩
    · exact ⟨a2.trans b2.symm, a3.trans b3.symm⟩
    · exact absurd b1.2.1 (a1 y b1.1)
    · exact absurd a1.2.1 (b1 x a1.1)
    · have b1' : isSol (rowsOf (α.2.2.1 a).toNat (α.2.1 a + α.2.2.1 a) (gBA α a)) (α.2.1 a) (fun j => α.1 (36 * b + 6 * j)) f n lead X y := ⟨b1.1, b1.2.1, fun k q1 q2 => by
        rw [(hx k q2).1, (hx k q2).2]; exact b1.2.2 k q1 q2⟩
      have hxy := sol_unique h1.1 h1.2.2 h2 h0 a1 b1'
      exact gvO_unique (fun i j _ _ _ _ => hxy _) a2 b2
theorem prO_unique {α α' β' : AB} {l : List Int} {c d : Int} (h : prO α l c α') (h' : prO α l d β') : c = d ∧ α' = β' := ⟨h.1.trans h'.1.symm, h.2.trans h'.2.symm⟩
theorem u_determinant {α α' β' : AB} {m c d : Int} (h : m_determinant α m c α') (h' : m_determinant α m d β') : c = d ∧ α' = β' := by
  rcases h with ⟨a1, a2, a3⟩ | ⟨a1, a2⟩ <;> rcases h' with ⟨b1, b2, b3⟩ | ⟨b1, b2⟩
  · exact ⟨a2.trans b2.symm, a3.trans b3.symm⟩
  · exact absurd b1 a1
  · exact absurd a1 b1
  · exact prO_unique a2 b2
theorem u_divisor {α α' β' : AB} {m k c d : Int} (h : m_divisor α m k c α') (h' : m_divisor α m k d β') : c = d ∧ α' = β' := by
  rcases h with ⟨a1, a2, a3⟩ | ⟨a1, e, a2, a3⟩ <;> rcases h' with ⟨b1, b2, b3⟩ | ⟨b1, e', b2, b3⟩
  · exact ⟨a2.trans b2.symm, a3.trans b3.symm⟩
  · exact absurd b1 a1
  · exact absurd a1 b1
  · have := isD_unique a2 b2
    subst this
    exact prO_unique a3 b3
theorem u_factor {α α' β' : AB} {m k c d : Int} (h : m_factor α m k c α') (h' : m_factor α m k d β') : c = d ∧ α' = β' := by
  rcases h with ⟨a1, a2, a3⟩ | ⟨a1, e, a2, a3⟩ <;> rcases h' with ⟨b1, b2, b3⟩ | ⟨b1, e', b2, b3⟩
  · exact ⟨a2.trans b2.symm, a3.trans b3.symm⟩
  · exact absurd b1 a1
  · exact absurd a1 b1
  · have := isD_unique a2 b2
    subst this
    rcases a3 with ⟨p1, p2, p3⟩ | ⟨p1, g, p2, p3⟩ <;> rcases b3 with ⟨q1, q2, q3⟩ | ⟨q1, g', q2, q3⟩
    · exact ⟨p2.trans q2.symm, p3.trans q3.symm⟩
    · exact absurd p1 q1
    · exact absurd q1 p1
    · have := isD_unique p2 q2
      subst this
      exact prO_unique p3 q3
theorem u_inverse {α α' β' : AB} {m i j c d : Int} (h : m_inverse α m i j c α') (h' : m_inverse α m i j d β') : c = d ∧ α' = β' := by
  rcases h with ⟨a1, a2, a3⟩ | ⟨a1, a2, a3, a4⟩ | ⟨a1, a2, e, x, a3, a4, a5⟩ <;> rcases h' with ⟨b1, b2, b3⟩ | ⟨b1, b2, b3, b4⟩ | ⟨b1, b2, e', x', b3, b4, b5⟩
  · exact ⟨a2.trans b2.symm, a3.trans b3.symm⟩
  · exact absurd b1 a1
  · exact absurd b1 a1
  · exact absurd a1 b1
  · exact ⟨a3.trans b3.symm, a4.trans b4.symm⟩
  · exact absurd b2 a2
  · exact absurd a1 b1
  · exact absurd a2 b2
  · rw [← b3] at a3
    rw [← b4] at a4
    subst a3; subst a4
    rcases a5 with ⟨p1, p2, p3⟩ | ⟨p1, p2⟩ <;> rcases b5 with ⟨q1, q2, q3⟩ | ⟨q1, q2⟩
    · exact ⟨p2.trans q2.symm, p3.trans q3.symm⟩
    · exact absurd p1 q1
    · exact absurd q1 p1
    · exact prO_unique p2 q2
theorem u_characteristic {α α' β' : AB} {m k c d : Int} (h : m_characteristic α m k c α') (h' : m_characteristic α m k d β') : c = d ∧ α' = β' := by
  rcases h with ⟨a1, a2, a3⟩ | ⟨a1, a2, a3, a4⟩ | ⟨a1, a2, a3⟩ <;> rcases h' with ⟨b1, b2, b3⟩ | ⟨b1, b2, b3, b4⟩ | ⟨b1, b2, b3⟩
  · exact ⟨a2.trans b2.symm, a3.trans b3.symm⟩
  · exact absurd b1 a1
  · exact absurd b1 a1
  · exact absurd a1 b1
  · exact ⟨a3.trans b3.symm, a4.trans b4.symm⟩
  · exact absurd b2 a2
  · exact absurd a1 b1
  · exact absurd a2 b2
  · exact prO_unique a3 b3
theorem u_check {α α' β' : AB} {m c d : Int} (h : m_check α m c α') (h' : m_check α m d β') : c = d ∧ α' = β' := ⟨h.1.trans h'.1.symm, h.2.trans h'.2.symm⟩
