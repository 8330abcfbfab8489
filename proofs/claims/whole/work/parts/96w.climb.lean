/-! THE CLASS: the stairs are climbed to the end -/
theorem hl_tri {c : Nat → Int} {v : Nat → Vec} : ∀ {n k : Nat}, (∀ i m, k ≤ i → i < m → m < k + n → v m (c i) = 0) → tri (hl c v n k)
  | 0, _, _ => trivial
  | n + 1, k, h => ⟨fun q hq => by
      obtain ⟨m, a, b, rfl⟩ := hl_mem.mp hq
      exact h k m (by omega) (by omega) (by omega), hl_tri (fun i m a b d => h i m (by omega) b (by omega))⟩
theorem ldV_diag {s : mo_S} {m i F : Nat} {tn : Int} (hF : (if tn = 1 then s 2 m else s 3 m) = F) : ldV s m tn i (F + i : Nat) = 1 ∧ ∀ k : Nat, k ≠ i → ldV s m tn i (F + k : Nat) = 0 := by
  unfold ldV
  rw [hF]
  refine ⟨?_, fun k hk => ?_⟩
  · rw [if_neg (by omega), if_pos (by omega)]
  · rw [if_neg (by omega), if_neg (by omega)]
/-- the rows are independent -/
theorem ld_nsg {s : mo_S} {m F : Nat} {tn : Int} (hF : (if tn = 1 then s 2 m else s 3 m) = F) (N : Nat) : ∃ J : List Int, det (fam (ldV s m tn) N 0) J = 1 := by
  refine ⟨(hl (fun i => ((F + i : Nat) : Int)) (ldV s m tn) N 0).map Prod.fst, ?_⟩
  have ht : tri (hl (fun i => ((F + i : Nat) : Int)) (ldV s m tn) N 0) := hl_tri (fun i k _ a _ => (ldV_diag hF).2 i (by omega))
  have := det_tri ht
  rw [hl_vv] at this
  rw [this]
  have one : ∀ (hs : HL), (∀ q, q ∈ hs → q.2 q.1 = 1) → lpr hs = 1 := by
    intro hs
    induction hs with
    | nil => intro _; rfl
    | cons p t ih =>
      intro h
      show p.2 p.1 * lpr t = 1
      rw [h p List.mem_cons_self, ih (fun q hq => h q (List.mem_cons_of_mem _ hq))]; rfl
  refine one _ (fun q hq => ?_)
  obtain ⟨i, _, _, rfl⟩ := hl_mem.mp hq
  exact (ldV_diag hF).1
theorem ldV_size {s : mo_S} {m i : Nat} {tn : Int} (hM : MI (rf s)) (hm : m < 6) (hi : (i : Int) < (if tn = 1 then s 3 m else s 2 m)) (j : Int) : ((ldV s m tn i j).natAbs : Int) ≤ 1000000000000000000 := by
  obtain ⟨d1, d2, d3, d4⟩ := rf_dim hM hm
  unfold ldV
  by_cases ht : tn = 1
  · rw [if_pos ht] at hi ⊢
    by_cases hj : 0 ≤ j ∧ j < s 2 m
    · rw [if_pos hj, if_pos ht]
      have := rf_num hM (x := 36 * m + 6 * j + i) (by omega) (by omega)
      omega
    · rw [if_neg hj]; split <;> decide
  · rw [if_neg ht] at hi ⊢
    by_cases hj : 0 ≤ j ∧ j < s 3 m
    · rw [if_pos hj, if_neg ht]
      have := rf_num hM (x := 36 * m + 6 * i + j) (by omega) (by omega)
      omega
    · rw [if_neg hj]; split <;> decide
theorem ldV_out {s : mo_S} {m i : Nat} {tn : Int} (hM : MI (rf s)) (hm : m < 6) (hi : (i : Int) < (if tn = 1 then s 3 m else s 2 m)) {j : Int} (hj : s 2 m + s 3 m ≤ j) : ldV s m tn i j = 0 := by
  obtain ⟨d1, d2, d3, d4⟩ := rf_dim hM hm
  unfold ldV
  by_cases ht : tn = 1
  · rw [if_pos ht] at hi ⊢; rw [if_neg (by omega), if_neg (by omega)]
  · rw [if_neg ht] at hi ⊢; rw [if_neg (by omega), if_neg (by omega)]
theorem ld_mK {s : mo_S} {m N : Nat} {tn : Int} (hM : MI (rf s)) (hm : m < 6) (hN : (N : Int) ≤ (if tn = 1 then s 3 m else s 2 m)) : mK (fam (ldV s m tn) N 0) := by
  obtain ⟨d1, d2, d3, d4⟩ := rf_dim hM hm
  intro J hJ
  rw [fam_len] at hJ
  have hN6 : N ≤ 6 := by split at hN <;> omega
  have := det_bound (b := 1000000000000000000) (by decide) (vs := fam (ldV s m tn) N 0) (J := J) (by rw [fam_len]; omega) (fun v hv j _ => by
    obtain ⟨i, _, hi, rfl⟩ := fam_mem.mp hv
    exact ldV_size hM hm (by omega) j)
  have h6 := fac6 ⟨J.length, by omega⟩
  simp only at h6
  unfold MBND
  omega
theorem ldV_congr {s s' : mo_S} (h1 : s' 1 = s 1) (h2 : s' 2 = s 2) (h3 : s' 3 = s 3) (m : Nat) (tn : Int) : ldV s' m tn = ldV s m tn := by
  funext i j; unfold ldV; rw [h1, h2, h3]
/-- the spare row is not 0 alone -/
theorem spare_nz {s : mo_S} {v : Nat → Int} {W n k T : Nat} {vs : List Vec} (h : mid s v W n k T vs) (hlen : vs.length = n + 1) {J : List Int} (hJ : det vs J ≠ 0) : ∃ j : Int, (0 ≤ j ∧ j < W) ∧ rv s v n j ≠ 0 := by
  refine Classical.byContradiction (fun hne => hJ ?_)
  have hz : ∀ j : Int, rv s v n j = 0 := fun j => by
    refine Classical.byContradiction (fun hj => ?_)
    by_cases h0 : 0 ≤ j
    · by_cases h1 : j < W
      · exact hne ⟨j, ⟨h0, h1⟩, hj⟩
      · exact hj (h.2.2.2.2.1.2.1 j (by omega))
    · exact hj (PR_out v _ (by omega))
  refine det_more (A := fam (rv s v) n 0) (fun x hx => ?_) (by rw [fam_len]; omega)
  refine sp_sub' (fun y hy => ?_) ((h.2.2.2.2.2 x).mpr (sp_mem hx))
  obtain ⟨i, _, hi, rfl⟩ := fam_mem.mp hy
  by_cases e : i = n
  · subst e; exact sp_ext sp_zero (fun j => (hz j).symm)
  · exact sp_mem (fam_mem.mpr ⟨i, by omega, by omega, rfl⟩)
/-- the spare row is taken in -/
theorem mid_EC {s s' : mo_S} {v v' : Nat → Int} {W n k ld p : Nat} {vs : List Vec} (h : mid s v W n k 465 vs) (hpm : prm s) (hkn : k ≤ n) (hn : n < 6) (ep : s 6 n = p) (hk : kpR p v v') (hs : kps s s' k n ld p) (hld : isLd (PR v p) W ld) (hldW : ld < W) (hsg : (PR v' p = PR v p ∧ 0 < PR v p ld) ∨ (PR v' p = (fun j => - PR v p j) ∧ PR v p ld < 0)) (hlt : k < n → (ld : Int) < s 5 k) : EC s' v' W (n + 1) n 465 vs := by
  obtain ⟨m1, m2, m3, m4, ⟨m5, m6, m7⟩, m8⟩ := h
  obtain ⟨_, _, _, a1, a2, a3, _⟩ := hs
  have rp : rv s v n = PR v p := by unfold rv; rw [ep, Int.toNat_natCast]
  rw [rp] at m5 m6 m7
  have far : ∀ i : Nat, i < n → PR v' (s 6 i).toNat = rv s v i := fun i hi => by
    have r := rv_ne hpm (show i < 7 by omega) (show n < 7 by omega) (by omega)
    rw [ep, Int.toNat_natCast] at r
    exact kpL_PR (kpR_L hk) r
  have lo' : ∀ i : Nat, i < k → rv s' v' i = rv s v i ∧ s' 5 i = s 5 i := fun i hi => by
    have := a1 i (by omega)
    exact ⟨by unfold rv; rw [this.1]; exact far i (by omega), this.2⟩
  have eq' : rv s' v' k = PR v' p ∧ s' 5 k = ld := ⟨by unfold rv; rw [a2.1, Int.toNat_natCast], a2.2⟩
  have hi' : ∀ i : Nat, k ≤ i → i < n → rv s' v' (i + 1) = rv s v i ∧ s' 5 (i + 1 : Nat) = s 5 i := fun i h1 h2 => by
    have := a3 (i + 1 : Nat) (by omega) (by omega)
    rw [show ((i + 1 : Nat) : Int) - 1 = (i : Int) by omega] at this
    exact ⟨by unfold rv; rw [this.1]; exact far i h2, this.2⟩
  have nz := hld.2.2 hldW
  have hz : ∀ j : Int, j < ld → PR v p j = 0 := fun j hj => by
    by_cases j0 : 0 ≤ j
    · exact hld.2.1 j hj j0
    · exact PR_out v p (by omega)
  have hpz : ∀ j : Int, PR v p j = 0 → PR v' p j = 0 := fun j hj => by
    rcases hsg with ⟨e, _⟩ | ⟨e, _⟩
    · rw [e]; exact hj
    · rw [e]; simp only; omega
  have hps : ∀ j : Int, (PR v' p j).natAbs = (PR v p j).natAbs := fun j => by
    rcases hsg with ⟨e, _⟩ | ⟨e, _⟩
    · rw [e]
    · rw [e]; simp only; omega
  have gt : ∀ i : Nat, i < k → s 5 i < ld := fun i hi => by
    refine Classical.byContradiction (fun hne => nz (m5 i hi ld (by omega)))
  have lt : ∀ i : Nat, k ≤ i → i < n → (ld : Int) < s 5 i := fun i h1 h2 => by
    by_cases e : i = k
    · subst e; exact hlt h2
    · have := m2 k i (by omega) h2
      have := hlt (by omega)
      omega
  have cs : ∀ i : Nat, i < n + 1 → i < k ∨ i = k ∨ ∃ i', i = i' + 1 ∧ k ≤ i' ∧ i' < n := fun i hi => by
    rcases Nat.lt_trichotomy i k with e | e | e
    · exact Or.inl e
    · exact Or.inr (Or.inl e)
    · exact Or.inr (Or.inr ⟨i - 1, by omega, by omega, by omega⟩)
  have hF := FB_25
  have pX : (1000000000 : Int) ^ 25 ≤ 1000000000 ^ 465 := pow_mono (by decide) (by omega)
  obtain ⟨BB, hBB⟩ : ∃ B : Int, B = 1000000000 ^ 465 := ⟨_, rfl⟩
  rw [← hBB] at pX m3 m7
  unfold EC
  rw [← hBB]
  refine ⟨fun i hi => ?_, fun i m h1 h2 => ?_, fun i hi j => ?_, fun i m h1 h2 h3 => by omega, ?_⟩
  · rcases cs i hi with e | e | ⟨i', e, h1, h2⟩
    · rw [(lo' i e).1, (lo' i e).2]; exact m1 i (by omega)
    · subst e
      rw [eq'.1, eq'.2]
      refine ⟨by omega, ?_, fun j hj => hpz j (hz j hj), fun j hj => hpz j (m6 j hj)⟩
      rcases hsg with ⟨e, h⟩ | ⟨e, h⟩
      · rw [e]; exact h
      · rw [e]; simp only; omega
    · subst e; rw [(hi' i' h1 h2).1, (hi' i' h1 h2).2]; exact m1 i' h2
  · rcases cs i (by omega) with e | e | ⟨i', e, c1, c2⟩ <;> rcases cs m h2 with e' | e' | ⟨m', e', c3, c4⟩
    · rw [(lo' i e).2, (lo' m e').2]; exact m2 i m h1 (by omega)
    · subst e'; rw [(lo' i e).2, eq'.2]; exact gt i e
    · subst e'; rw [(lo' i e).2, (hi' m' c3 c4).2]; exact m2 i m' (by omega) c4
    · omega
    · omega
    · subst e; subst e'; rw [eq'.2, (hi' m' c3 c4).2]; exact lt m' c3 c4
    · omega
    · omega
    · subst e; subst e'; rw [(hi' i' c1 c2).2, (hi' m' c3 c4).2]; exact m2 i' m' (by omega) c4
  · rcases cs i (by omega) with e | e | ⟨i', e, c1, c2⟩
    · rw [(lo' i e).1]; exact m3 i e j
    · subst e; rw [eq'.1, hps j]; exact m7 j
    · subst e; rw [(hi' i' c1 c2).1]; have := (m4 i' c1 c2).1 j; omega
  · refine spEq_trans ?_ m8
    refine spEq_of (fun x hx => ?_) (fun x hx => ?_)
    · obtain ⟨i, _, hi, rfl⟩ := fam_mem.mp hx
      rcases cs i (by omega) with e | e | ⟨i', e, c1, c2⟩
      · rw [(lo' i e).1]; exact sp_mem (fam_mem.mpr ⟨i, by omega, by omega, rfl⟩)
      · subst e
        rw [eq'.1]
        have hmem : sp (fam (rv s v) (n + 1) 0) (rv s v n) := sp_mem (fam_mem.mpr ⟨n, by omega, by omega, rfl⟩)
        rw [rp] at hmem
        rcases hsg with ⟨e, _⟩ | ⟨e, _⟩
        · rw [e]; exact hmem
        · rw [e]; exact sp_ext (sp_mul (-1) hmem) (fun j => by omega)
      · subst e; rw [(hi' i' c1 c2).1]; exact sp_mem (fam_mem.mpr ⟨i', by omega, by omega, rfl⟩)
    · obtain ⟨i, _, hi, rfl⟩ := fam_mem.mp hx
      by_cases e : i = n
      · subst e
        rw [rp]
        have hmem : sp (fam (rv s' v') (i + 1) 0) (rv s' v' k) := sp_mem (fam_mem.mpr ⟨k, by omega, by omega, rfl⟩)
        rw [eq'.1] at hmem
        rcases hsg with ⟨e, _⟩ | ⟨e, _⟩
        · rw [e] at hmem; exact hmem
        · rw [e] at hmem; exact sp_ext (sp_mul (-1) hmem) (fun j => by omega)
      · by_cases e' : i < k
        · rw [← (lo' i e').1]; exact sp_mem (fam_mem.mpr ⟨i, by omega, by omega, rfl⟩)
        · rw [← (hi' i (by omega) (by omega)).1]; exact sp_mem (fam_mem.mpr ⟨i + 1, by omega, by omega, rfl⟩)
/-- one row more is settled -/
theorem EC_down {s : mo_S} {v v1 : Nat → Int} {W N b T p : Nat} {vs : List Vec} (h : EC s v W N (b + 1) T vs) (hpm : prm s) (hb : b < N) (hN : N ≤ 6) (ep : s 6 b = p) (hk : kpL p v v1) (ht : stl s v (b + 1) N (PR v p) (PR v1 p)) : EC s v1 W N b T vs := by
  obtain ⟨m1, m2, m3, m4, m5⟩ := h
  have far : ∀ i : Nat, i < N → i ≠ b → rv s v1 i = rv s v i := fun i hi hne => by
    have r := rv_ne hpm (show i < 7 by omega) (show b < 7 by omega) hne
    rw [ep, Int.toNat_natCast] at r
    exact kpL_PR hk r
  have rb : rv s v b = PR v p := by unfold rv; rw [ep, Int.toNat_natCast]
  have rb1 : rv s v1 b = PR v1 p := by unfold rv; rw [ep, Int.toNat_natCast]
  have low : ∀ j : Int, j ≤ s 5 b → PR v1 p j = PR v p j := fun j hj => ht.2.1 j (fun i h1 h2 => by have := m2 b i (by omega) h2; omega)
  refine ⟨fun i hi => ?_, m2, fun i hi j => ?_, fun i k h1 h2 h3 => ?_, ?_⟩
  · by_cases e : i = b
    · subst e
      have := m1 i hi
      rw [rb] at this
      rw [rb1]
      exact ⟨this.1, by rw [low _ (Int.le_refl _)]; exact this.2.1, fun j hj => by rw [low j (by omega)]; exact this.2.2.1 j hj, fun j hj => by
        rw [stl_W ht (fun k h1 h2 => (m1 k h2).2.2.2 j hj)]; exact this.2.2.2 j hj⟩
    · rw [far i hi e]; exact m1 i hi
  · rw [far i (by omega) (by omega)]; exact m3 i (by omega) j
  · rw [far k h3 (by omega)]
    by_cases e : i = b
    · subst e; rw [rb1]; exact ht.1 k (by omega) h3
    · rw [far i (by omega) e]; exact m4 i k (by omega) h2 h3
  · refine spEq_trans ?_ m5
    refine fam_set (a := b) hb (fun m hm hne => far m hm hne) (Lz := fam (fun i => PR v (s 6 i).toNat) (N - (b + 1)) (b + 1)) (fun x hx => ?_) ?_
    · obtain ⟨i, h1, h2, rfl⟩ := fam_mem.mp hx
      exact ⟨i, by omega, by omega, rfl⟩
    · rw [rb, rb1]; exact ht.2.2
section CLIMB
variable {xs : List Int32} {fr lo : Nat} {w0 w : ax_W} {s : mo_S} {v : Nat → Int} {L Z : Nat} {Q : Outcome → ax_W → Prop}
theorem climb_up {m H n N W k : Nat} {tn : Int} {v0 : Nat → Int} {vs : List Vec} (hfr : 7 ≤ fr) (hlo : 340 ≤ lo) (v27 : v0 27 = 1) (hN : N ≤ 6) (W12 : W ≤ 12) (hpm : prm s) (h3 : s 0 3 = N) (hW : s 0 4 = W) (hlen : vs.length = N) (hK : mK vs)
    (K : ∀ (w : ax_W) (v : Nat → Int) y6, CW w0 w s v L Z → kpS v0 v → EC s v W N 0 465 vs → fin xs fr lo 57 182 [some (.ref 232), some (.ref (2 + 2 * m)), some (.int (jI tn)), some (.int (jI (H : Int))), some (.int (jI (n : Int))), some (.int (jI (k : Int))), y6] [] w Q) :
    ∀ (b : Nat) (w : ax_W) (v : Nat → Int), b < N → CW w0 w s v L Z → kpS v0 v → EC s v W N b 465 vs →
    fin xs fr lo 57 156 [some (.ref 232), some (.ref (2 + 2 * m)), some (.int (jI tn)), some (.int (jI (H : Int))), some (.int (jI (n : Int))), some (.int (jI (k : Int))), some (.int (jI ((b : Int) - 1)))] [] w Q := by
  intro b
  induction b with
  | zero =>
    intro w v hb hC hv hE
    refine fi_step (pc' := 158) m_St_climb rfl rfl ?_
    refine s_if_lt (p := 161) m_St_climb rfl rfl (by omega) (by omega) (fun hbr => ?_) (fun hbr => False.elim (by omega))
    exact K w v _ hC hv hE
  | succ b ih =>
    intro w v hb hC hv hE
    obtain ⟨p, ep⟩ : ∃ p : Nat, s 6 b = p := ⟨(s 6 b).toNat, by have := hpm.1 b (by omega); omega⟩
    have hp : p < 7 := by have := hpm.1 b (by omega); omega
    have hKR := (EC_KR hE hlen hN hK).1
    have hF := FB_25
    have v27' : v 27 = 1 := by rw [hv 27 (by omega) (by omega) (by omega)]; exact v27
    have rb : rv s v b = PR v p := by unfold rv; rw [ep, Int.toNat_natCast]
    rw [show ((b + 1 : Nat) : Int) - 1 = (b : Int) by omega]
    refine fi_step (pc' := 158) m_St_climb rfl rfl ?_
    refine s_if_lt (p := 161) m_St_climb rfl rfl (by omega) (by omega) (fun hbr => False.elim (by omega)) (fun hbr => ?_)
    refine fi_step (pc' := 162) m_St_climb rfl rfl ?_
    refine fi_step (pc' := 163) m_St_climb rfl rfl ?_
    refine k_get (p := 166) m_St_climb rfl rfl (by first | exact C_print hC | exact C_minors hC | exact C_stairs hC | exact (CW_cst hC).2.1 | exact C_mat hC (by omega) | exact ((CW_cst hC).2.2.2.2.2.2 _ (by omega)).1 | assumption) rfl ?_
    refine fi_step (pc' := 168) m_St_climb rfl rfl ?_
    refine r_ldR (p := 169) m_St_climb rfl rfl hC (by omega) (by omega) ?_
    rw [ep, Int.toNat_natCast]
    refine fi_step (pc' := 171) m_St_climb rfl rfl ?_
    refine fi_step (pc' := 172) m_St_climb rfl rfl ?_
    refine s_iadd (p := 173) m_St_climb rfl rfl ?_
    rw [show (b : Int) + 1 = ((b + 1 : Nat) : Int) by omega]
    refine g_3 (p := 176) m_St_climb rfl inv_v (by decide) m_St_settle rfl rfl (by omega) (by omega) (Nat.le_of_ble_eq_true rfl) (Nat.le_of_ble_eq_true rfl) (C_rcvS hC _) (st_settle (t := 465) (f := b + 1) (n := N) (W := W) (M := FBND) hC (by omega) (by omega) v27' hp hN (by omega) h3 hW W12 hF.1 hKR (fun i h1 h2 => ⟨by have := rv_ne hpm (show i < 7 by omega) (show b < 7 by omega) (by omega); rw [ep, Int.toNat_natCast] at this; exact this, hpm.1 i (by omega)⟩) (by omega) (by omega) (fun j => by rw [← rb]; exact hE.2.2.1 b (by omega) j)) (fun v w hP => ?_)
    obtain ⟨rfl, v1, hC, k1, _, t1⟩ := hP
    refine s_iinc (p := 179) m_St_climb rfl rfl rfl ?_
    refine fi_step (pc' := 156) m_St_climb rfl rfl ?_
    rw [show (b : Int) + -1 = (b : Int) - 1 by omega]
    exact ih w v1 (by omega) hC (kpS_L hv hp k1) (EC_down hE hpm (by omega) hN ep k1 t1)
theorem climb_out {m H F W : Nat} {tn : Int} {s0 : mo_S} {v0 : Nat → Int} (hfr : 8 ≤ fr) (hlo : 370 ≤ lo) (hM : MI (rf s0)) (hm : m < 6) (htn : tn = 0 ∨ tn = 1) (hF : (if tn = 1 then s0 2 m else s0 3 m) = F) (hH : (if tn = 1 then s0 3 m else s0 2 m) = H) (hW0 : s0 2 m + s0 3 m = W) (v27 : v0 27 = 1) :
    ∀ (r i : Nat) (w : ax_W) (s : mo_S) (v : Nat → Int) (y5 y6 : Option Value), i + r = H → CW w0 w s v L Z → kst s0 s → prm s → kpS v0 v → s 0 3 = i → s 0 4 = W → EC s v W i 0 465 (fam (ldV s0 m tn) i 0) →
    fin xs fr lo 57 37 [some (.ref 232), some (.ref (2 + 2 * m)), some (.int (jI tn)), some (.int (jI (H : Int))), some (.int (jI (i : Int))), y5, y6] [] w (Ret fun u w' => u = none ∧ ∃ s' v', CW w0 w' s' v' L Z ∧ kst s0 s' ∧ prm s' ∧ kpS v0 v' ∧ s' 0 3 = H ∧ s' 0 4 = W ∧ EC s' v' W H 0 465 (fam (ldV s0 m tn) H 0)) := by
  obtain ⟨d1, d2, d3, d4⟩ := rf_dim hM hm
  have hH6 : H ≤ 6 := by split at hH <;> omega
  intro r
  induction r with
  | zero =>
    intro i w s v y5 y6 hi hC hs hpm hv h3 hW hE
    obtain rfl : i = H := by omega
    refine fi_step (pc' := 39) m_St_climb rfl rfl ?_
    refine fi_step (pc' := 40) m_St_climb rfl rfl ?_
    refine s_ic_ge (p := 43) m_St_climb rfl rfl (by omega) (by omega) (by omega) (by omega) (fun hbr => ?_) (fun hbr => False.elim (by omega))
    refine p_ret m_St_climb rfl rfl ?_
    exact ⟨rfl, s, v, hC, hs, hpm, hv, h3, hW, hE⟩
  | succ r ih =>
    intro i w s v y5 y6 hi hC hs hpm hv h3 hW hE
    obtain ⟨p, ep⟩ : ∃ p : Nat, s 6 i = p := ⟨(s 6 i).toNat, by have := hpm.1 i (by omega); omega⟩
    have hp : p < 7 := by have := hpm.1 i (by omega); omega
    have e1 : s 1 = s0 1 := hs.1 1 (by decide) (by decide) (by decide)
    have e2 : s 2 = s0 2 := hs.1 2 (by decide) (by decide) (by decide)
    have e3 : s 3 = s0 3 := hs.1 3 (by decide) (by decide) (by decide)
    have hMs : MI (rf s) := by rw [rf_eq (s := s0) (fun x _ _ => by rw [e1]) (fun x _ _ => by rw [e2]) (fun x _ _ => by rw [e3])]; exact hM
    have hi0 : (i : Int) < (if tn = 1 then s0 3 m else s0 2 m) := by omega
    have his : (i : Int) < (if tn = 1 then s 3 m else s 2 m) := by rw [e2, e3]; exact hi0
    have hKR := EC_KR hE (fam_len _ _ _) (by omega) (ld_mK hM hm (by omega))
    refine fi_step (pc' := 39) m_St_climb rfl rfl ?_
    refine fi_step (pc' := 40) m_St_climb rfl rfl ?_
    refine s_ic_ge (p := 43) m_St_climb rfl rfl (by omega) (by omega) (by omega) (by omega) (fun hbr => False.elim (by omega)) (fun hbr => ?_)
    refine fi_step (pc' := 44) m_St_climb rfl rfl ?_
    refine fi_step (pc' := 45) m_St_climb rfl rfl ?_
    refine k_get (p := 48) m_St_climb rfl rfl (by first | exact C_print hC | exact C_minors hC | exact C_stairs hC | exact (CW_cst hC).2.1 | exact C_mat hC (by omega) | exact ((CW_cst hC).2.2.2.2.2.2 _ (by omega)).1 | assumption) rfl ?_
    refine fi_step (pc' := 49) m_St_climb rfl rfl ?_
    refine k_get (p := 52) m_St_climb rfl rfl (by first | exact C_print hC | exact C_minors hC | exact C_stairs hC | exact (CW_cst hC).2.1 | exact C_mat hC (by omega) | exact ((CW_cst hC).2.2.2.2.2.2 _ (by omega)).1 | assumption) rfl ?_
    rw [h3]
    refine r_ldR (p := 53) m_St_climb rfl rfl hC (by omega) (by omega) ?_
    rw [ep, Int.toNat_natCast]
    refine fi_step (pc' := 54) m_St_climb rfl rfl ?_
    refine fi_step (pc' := 56) m_St_climb rfl rfl ?_
    refine fi_step (pc' := 57) m_St_climb rfl rfl ?_
    refine g_5 (p := 60) m_St_climb rfl inv_v (by decide) m_St_load rfl rfl (by omega) (by omega) (Nat.le_of_ble_eq_true rfl) (Nat.le_of_ble_eq_true rfl) (C_rcvS hC _) (st_load hC hMs hm hp htn his (by omega) (by omega)) (fun v w hP => ?_)
    obtain ⟨rfl, v1, hC, k1, l1⟩ := hP
    rw [ldV_congr e1 e2 e3] at l1
    have hv1 : kpS v0 v1 := kpS_L hv hp (kpR_L k1)
    have far : ∀ k : Nat, k < i → rv s v1 k = rv s v k := fun k hk => by
      have r := rv_ne hpm (show k < 7 by omega) (show i < 7 by omega) (by omega)
      rw [ep, Int.toNat_natCast] at r
      exact kpL_PR (kpR_L k1) r
    have ri : rv s v1 i = ldV s0 m tn i := by unfold rv; rw [ep, Int.toNat_natCast]; exact l1
    have hmid : mid s v1 W i 0 25 (fam (ldV s0 m tn) (i + 1) 0) := by
      refine ⟨fun k hk => by rw [far k hk]; exact hE.1 k hk, hE.2.1, fun k hk => by omega, fun k _ hk => by rw [far k hk]; exact ⟨(hKR.1 k (by omega) hk).2.2.2.2.1, hKR.2 k hk⟩, ⟨fun k hk => by omega, fun j hj => by rw [ri]; exact ldV_out hM hm hi0 (by omega), fun j => by rw [ri]; exact Int.lt_of_le_of_lt (ldV_size hM hm hi0 j) (by decide)⟩, spEq_of (fun x hx => ?_) (fun x hx => ?_)⟩
      · obtain ⟨k, _, hk, rfl⟩ := fam_mem.mp hx
        by_cases e : k = i
        · subst e; rw [ri]; exact sp_mem (fam_mem.mpr ⟨k, by omega, by omega, rfl⟩)
        · rw [far k (by omega)]
          refine sp_sub' (fun y hy => ?_) ((hE.2.2.2.2 _).mp (sp_mem (fam_mem.mpr ⟨k, by omega, by omega, rfl⟩)))
          obtain ⟨k', _, hk', rfl⟩ := fam_mem.mp hy
          exact sp_mem (fam_mem.mpr ⟨k', by omega, by omega, rfl⟩)
      · obtain ⟨k, _, hk, rfl⟩ := fam_mem.mp hx
        by_cases e : k = i
        · subst e; rw [← ri]; exact sp_mem (fam_mem.mpr ⟨k, by omega, by omega, rfl⟩)
        · refine sp_sub' (fun y hy => ?_) ((hE.2.2.2.2 _).mpr (sp_mem (fam_mem.mpr ⟨k, by omega, by omega, rfl⟩)))
          obtain ⟨k', _, hk', rfl⟩ := fam_mem.mp hy
          rw [← far k' (by omega)]
          exact sp_mem (fam_mem.mpr ⟨k', by omega, by omega, rfl⟩)
    refine fi_step (pc' := 61) m_St_climb rfl rfl ?_
    refine fi_step (pc' := 63) m_St_climb rfl rfl ?_
    have hbud := bud5 ⟨i, by omega⟩
    simp only at hbud
    refine climb_in (n := i) (s0 := s0) (v0 := v0) (vs := fam (ldV s0 m tn) (i + 1) 0) (by omega) (by omega) v27 (by omega) (by omega) (fun w s v k hC hs hpm hv h3 hW hk hmd hlt => ?_) i 0 25 w s v1 (by omega) hC hs hpm hv1 h3 hW (by omega) (by omega) hmid
    obtain ⟨p, ep⟩ : ∃ p : Nat, s 6 i = p := ⟨(s 6 i).toNat, by have := hpm.1 i (by omega); omega⟩
    have rp : rv s v i = PR v p := by unfold rv; rw [ep, Int.toNat_natCast]
    obtain ⟨J, hJ⟩ := ld_nsg hF (i + 1)
    have hnz := spare_nz hmd (fam_len _ _ _) (J := J) (by omega)
    rw [rp] at hnz
    refine fi_step (pc' := 143) m_St_climb rfl rfl ?_
    refine fi_step (pc' := 145) m_St_climb rfl rfl ?_
    refine g_2 (p := 148) m_St_climb rfl inv_v (by decide) m_St_keepSpare rfl rfl (by omega) (by omega) (Nat.le_of_ble_eq_true rfl) (Nat.le_of_ble_eq_true rfl) (C_rcvS hC _) (st_keepSpare (k := k) (n := i) (W := W) (p := p) hC (by omega) (by omega) hk (by omega) h3 hW (by omega) hpm.1 ep hnz) (fun v w hP => ?_)
    obtain ⟨rfl, s1, v1, ld, hC, k1, hks, hld, hldW, hsg⟩ := hP
    have hp : p < 7 := by have := hpm.1 i (by omega); omega
    have hE1 := mid_EC hmd hpm hk (by omega) ep k1 hks hld hldW hsg (fun h => hlt h ld (by rw [rp]; exact hld))
    have hpm1 : prm s1 := prm_ps hpm hk (by omega) ep hks
    have hv1 : kpS v0 v1 := kpS_L hv hp (kpR_L k1)
    have h31 : s1 0 3 = ((i + 1 : Nat) : Int) := by rw [hks.2.2.1]; omega
    have h41 : s1 0 4 = W := by rw [hks.2.1 4 (by decide)]; exact hW
    have hs1 : kst s0 s1 := ⟨fun a a0 a5 a6 => by rw [hks.1 a a0 a5 a6]; exact hs.1 a a0 a5 a6, fun j j3 j4 => by rw [hks.2.1 j j3]; exact hs.2 j j3 j4⟩
    refine fi_step (pc' := 149) m_St_climb rfl rfl ?_
    refine k_get (p := 152) m_St_climb rfl rfl (by first | exact C_print hC | exact C_minors hC | exact C_stairs hC | exact (CW_cst hC).2.1 | exact C_mat hC (by omega) | exact ((CW_cst hC).2.2.2.2.2.2 _ (by omega)).1 | assumption) rfl ?_
    refine fi_step (pc' := 153) m_St_climb rfl rfl ?_
    refine s_isub (p := 154) m_St_climb rfl rfl ?_
    refine fi_step (pc' := 156) m_St_climb rfl rfl ?_
    rw [h31, show ((i + 1 : Nat) : Int) - 2 = (i : Int) - 1 by omega]
    refine climb_up (N := i + 1) (W := W) (v0 := v0) (vs := fam (ldV s0 m tn) (i + 1) 0) (by omega) (by omega) v27 (by omega) (by omega) hpm1 h31 h41 (fam_len _ _ _) (ld_mK hM hm (by omega)) (fun w v y6 hC hv hE => ?_) i w v1 (by omega) hC hv1 hE1
    refine s_iinc (p := 185) m_St_climb rfl rfl rfl ?_
    refine fi_step (pc' := 37) m_St_climb rfl rfl ?_
    rw [show (i : Int) + 1 = ((i + 1 : Nat) : Int) by omega]
    exact ih (i + 1) w s1 v _ _ (by omega) hC hs1 hpm1 hv h31 h41 hE
theorem st_climb {m H F W : Nat} {tn : Int} (hC : CW w0 w s v L Z) (hok : okC s v) (hm : m < 6) (htn : tn = 0 ∨ tn = 1) (hF : (if tn = 1 then s 2 m else s 3 m) = F) (hH : (if tn = 1 then s 3 m else s 2 m) = H) (hW : s 2 m + s 3 m = W) (hfr : 8 ≤ fr) (hlo : 370 ≤ lo) :
    fin xs fr lo 57 0 (ax_ent [.ref 232, .ref (2 + 2 * m), .int (jI tn)] 7) [] w (Ret fun u w' => u = none ∧ ∃ s' v', CW w0 w' s' v' L Z ∧ kst s s' ∧ prm s' ∧ kpS v v' ∧ s' 0 3 = H ∧ s' 0 4 = W ∧ EC s' v' W H 0 465 (fam (ldV s m tn) H 0)) := by
  obtain ⟨hM, v27, _, hp1, hp2, _, _⟩ := hok
  obtain ⟨d1, d2, d3, d4⟩ := rf_dim hM hm
  have go : fin xs fr lo 57 16 [some (.ref 232), some (.ref (2 + 2 * m)), some (.int (jI tn)), some (.int (jI (H : Int))), none, none, none] [] w (Ret fun u w' => u = none ∧ ∃ s' v', CW w0 w' s' v' L Z ∧ kst s s' ∧ prm s' ∧ kpS v v' ∧ s' 0 3 = H ∧ s' 0 4 = W ∧ EC s' v' W H 0 465 (fam (ldV s m tn) H 0)) := by
    refine fi_step (pc' := 17) m_St_climb rfl rfl ?_
    refine fi_step (pc' := 18) m_St_climb rfl rfl ?_
    refine k_get (p := 21) m_St_climb rfl rfl (by first | exact C_print hC | exact C_minors hC | exact C_stairs hC | exact (CW_cst hC).2.1 | exact C_mat hC (by omega) | exact ((CW_cst hC).2.2.2.2.2.2 _ (by omega)).1 | assumption) rfl ?_
    refine fi_step (pc' := 22) m_St_climb rfl rfl ?_
    refine k_get (p := 25) m_St_climb rfl rfl (by first | exact C_print hC | exact C_minors hC | exact C_stairs hC | exact (CW_cst hC).2.1 | exact C_mat hC (by omega) | exact ((CW_cst hC).2.2.2.2.2.2 _ (by omega)).1 | assumption) rfl ?_
    refine s_iadd (p := 26) m_St_climb rfl rfl ?_
    refine c_put65 (p := 29) m_St_climb rfl rfl hC (fun w hC => ?_)
    refine fi_step (pc' := 30) m_St_climb rfl rfl ?_
    refine fi_step (pc' := 31) m_St_climb rfl rfl ?_
    refine c_put64 (p := 34) m_St_climb rfl rfl hC (fun w hC => ?_)
    refine fi_step (pc' := 35) m_St_climb rfl rfl ?_
    refine fi_step (pc' := 37) m_St_climb rfl rfl ?_
    rw [hW] at hC
    refine climb_out (s0 := s) (v0 := v) hfr hlo hM hm htn hF hH hW v27 H 0 w (up (up s 0 4 W) 0 3 0) v _ _ (by omega) hC ⟨fun a a0 _ _ => by rw [up_ne _ a0, up_ne _ a0], fun i i3 i4 => by rw [up_same, up1_ne _ i3, up_same, up1_ne _ i4]⟩ ?_ (fun _ _ _ _ => rfl) (by rw [up_same, up1_same]; rfl) (by rw [up_same, up1_ne _ (by decide), up_same, up1_same]) ⟨fun i hi => by omega, fun i k _ hk => by omega, fun i hi => by omega, fun i k _ _ hk => by omega, spEq_refl _⟩
    refine ⟨fun i hi => ?_, fun i j hi hj => ?_⟩
    · rw [up_ne _ (by decide), up_ne _ (by decide)]; exact hp1 i hi
    · rw [up_ne _ (by decide), up_ne _ (by decide)]; exact hp2 i j hi hj
  rcases htn with e | e
  · subst e
    rw [if_neg (by decide)] at hH
    refine fi_step (pc' := 1) m_St_climb rfl rfl ?_
    refine s_if_eq (p := 4) m_St_climb rfl rfl (by omega) (by omega) (fun hbr => ?_) (fun hbr => False.elim (by omega))
    refine fi_step (pc' := 12) m_St_climb rfl rfl ?_
    refine k_get (p := 15) m_St_climb rfl rfl (by first | exact C_print hC | exact C_minors hC | exact C_stairs hC | exact (CW_cst hC).2.1 | exact C_mat hC (by omega) | exact ((CW_cst hC).2.2.2.2.2.2 _ (by omega)).1 | assumption) rfl ?_
    refine fi_step (pc' := 16) m_St_climb rfl rfl ?_
    rw [hH]
    exact go
  · subst e
    rw [if_pos rfl] at hH
    refine fi_step (pc' := 1) m_St_climb rfl rfl ?_
    refine s_if_eq (p := 4) m_St_climb rfl rfl (by omega) (by omega) (fun hbr => False.elim (by omega)) (fun hbr => ?_)
    refine fi_step (pc' := 5) m_St_climb rfl rfl ?_
    refine k_get (p := 8) m_St_climb rfl rfl (by first | exact C_print hC | exact C_minors hC | exact C_stairs hC | exact (CW_cst hC).2.1 | exact C_mat hC (by omega) | exact ((CW_cst hC).2.2.2.2.2.2 _ (by omega)).1 | assumption) rfl ?_
    refine fi_step (pc' := 15) m_St_climb rfl rfl ?_
    refine fi_step (pc' := 16) m_St_climb rfl rfl ?_
    rw [hH]
    exact go
end CLIMB
