/-! MATHEMATICS: the lattice in the columns of leads, row by row -/
/-- a row of the form in the columns of leads -/
def tw (r lead : Int → Int) (f : Nat) (i : Nat) : Vec := fun e => if 0 ≤ e ∧ e < f then r (184 + 12 * i + lead e) else 0
theorem tw_in {r lead : Int → Int} {f i : Nat} {e : Int} (h0 : 0 ≤ e) (h1 : e < f) : tw r lead f i e = r (184 + 12 * i + lead e) := by unfold tw; rw [if_pos ⟨h0, h1⟩]
theorem tw_out {r lead : Int → Int} {f i : Nat} {e : Int} (h : ¬ (0 ≤ e ∧ e < f)) : tw r lead f i e = 0 := by unfold tw; rw [if_neg h]
theorem tw_congr {r r' lead : Int → Int} {f i : Nat} (h : ∀ e : Nat, e < f → r' (184 + 12 * i + lead e) = r (184 + 12 * i + lead e)) : tw r' lead f i = tw r lead f i := by
  funext e
  by_cases he : 0 ≤ e ∧ e < f
  · rw [tw_in he.1 he.2, tw_in he.1 he.2]
    have := h e.toNat (by omega)
    rwa [show ((e.toNat : Nat) : Int) = e by omega] at this
  · rw [tw_out he, tw_out he]
theorem bring_start {R f : Nat} {C D : Int} {g r lead : Int → Int} (hD : ∀ d, (∀ l : List Vec, l.length = (plist lead f).length → (∀ v, v ∈ l → v ∈ rowsOf R C g) → d ∣ det l (plist lead f)) → d ∣ D) (hl : ∀ k : Nat, k < f → 0 ≤ lead k ∧ lead k < C) (hinj : ∀ e e' : Nat, e < f → e' < f → lead e = lead e' → e = e')
    (hv : ∀ i k : Nat, i < R → k < f → r (100 + 6 * i + k) = g (12 * i + lead k) % D) : spEq ((rowsOf R C g).map (prj lead f)) (fam (pw r 0 f) R 0 ++ fam (un D) f 0) := by
  have hu : ∀ m, m < f → sp ((rowsOf R C g).map (prj lead f)) (un D m) := by
    intro m hm
    obtain ⟨x, x1, x2, x3⟩ := dgcd_row hD (plist_mem.mpr ⟨m, hm, rfl⟩)
    refine sp_ext (sp_map (prj_zero lead f) (prj_lin lead f) x1) (fun e => ?_)
    by_cases he : 0 ≤ e ∧ e < f
    · rw [prj_at lead x he.1 he.2]
      by_cases hem : e = m
      · subst hem; rw [x2]; simp [un]
      · have e1 : ((e.toNat : Nat) : Int) = e := by omega
        rw [x3 (lead e) (plist_mem.mpr ⟨e.toNat, by omega, by rw [e1]⟩) (fun h => hem (by
          have := hinj e.toNat m (by omega) hm (by rw [e1]; exact h); omega))]
        simp [un, hem]
    · unfold prj un; rw [if_neg he, if_neg (by omega)]
  have hz : ∀ i : Nat, i < R → sp (fam (un D) f 0) (fun e => prj lead f (rwg g C i) e - pw r 0 f i e) := by
    intro i hi
    refine un_sp (fun e he => ?_) (fun e => ?_)
    · rw [pw_out (by omega)]; unfold prj; rw [if_neg (by omega)]; rfl
    · by_cases he : 0 ≤ e ∧ e < f
      · have e1 : ((e.toNat : Nat) : Int) = e := by omega
        have := hv i e.toNat hi (by omega)
        have h2 := hl e.toNat (by omega)
        rw [e1] at this h2
        rw [pw_in (by omega) he.2, prj_at lead _ he.1 he.2, this]
        unfold rwg; rw [tr_in h2.1 h2.2]
        exact Int.dvd_self_sub_of_emod_eq rfl
      · rw [pw_out (by omega)]; unfold prj; rw [if_neg he]; exact ⟨0, by simp⟩
  have hun : ∀ {x}, sp (fam (un D) f 0) x → sp ((rowsOf R C g).map (prj lead f)) x := fun h => sp_sub' (fun v hv => by
    obtain ⟨m, _, hm, rfl⟩ := fam_mem.mp hv
    exact hu m (by omega)) h
  refine spEq_of (fun v hv => ?_) (fun v hv => ?_)
  · obtain ⟨u, hu', rfl⟩ := List.mem_map.mp hv
    obtain ⟨i, i0, i1, rfl⟩ := rowsOf_mem.mp hu'
    obtain ⟨n, rfl⟩ := Int.eq_ofNat_of_zero_le i0
    have h1 : sp (fam (pw r 0 f) R 0 ++ fam (un D) f 0) (pw r 0 f n) := sp_mem (List.mem_append.mpr (Or.inl (fam_mem.mpr ⟨n, by omega, by omega, rfl⟩)))
    have h2 : sp (fam (pw r 0 f) R 0 ++ fam (un D) f 0) (fun e => prj lead f (rwg g C n) e - pw r 0 f n e) := sp_sub' (fun v hv => sp_mem (List.mem_append.mpr (Or.inr hv))) (hz n (by omega))
    exact sp_ext (sp_add h1 h2) (fun e => by omega)
  · rcases List.mem_append.mp hv with h | h
    · obtain ⟨n, _, hn, rfl⟩ := fam_mem.mp h
      have h1 : sp ((rowsOf R C g).map (prj lead f)) (prj lead f (rwg g C n)) := sp_mem (List.mem_map_of_mem (rowsOf_mem.mpr ⟨n, by omega, by omega, rfl⟩))
      exact sp_ext (sp_sub h1 (hun (hz n (by omega)))) (fun e => by omega)
    · exact hun (sp_mem h)
theorem app_eq {A B B' : List Vec} (h1 : ∀ v, v ∈ B → sp B' v) (h2 : ∀ v, v ∈ B' → sp B v) : spEq (A ++ B) (A ++ B') := by
  have inR : ∀ {X : List Vec} {x : Vec}, sp X x → sp (A ++ X) x := fun h => sp_sub' (fun v hv => sp_mem (List.mem_append.mpr (Or.inr hv))) h
  refine spEq_of (fun v hv => ?_) (fun v hv => ?_)
  · rcases List.mem_append.mp hv with h | h
    · exact sp_mem (List.mem_append.mpr (Or.inl h))
    · exact inR (h1 v h)
  · rcases List.mem_append.mp hv with h | h
    · exact sp_mem (List.mem_append.mpr (Or.inl h))
    · exact inR (h2 v h)
theorem bring_extra {R k f : Nat} {D : Int} {r r1 : Int → Int} (hk : k < f) (hs : ∀ i e : Nat, i < R → k ≤ e → e < f → r1 (100 + 6 * i + e) = r (100 + 6 * i + e)) (hx : r1 (100 + 6 * R + k) = D) (hz : ∀ e : Nat, k < e → e < f → r1 (100 + 6 * R + e) = 0) (A : List Vec) : spEq (A ++ (fam (pw r k f) R 0 ++ fam (un D) (f - k) k)) (A ++ GL r1 D R k f) := by
  have hp : ∀ i, i < R → pw r1 k f i = pw r k f i := fun i hi => pw_congr (fun e h0 h1 => hs i e hi h0 h1)
  have hR : pw r1 k f R = un D k := by
    funext e
    by_cases he : (k : Int) ≤ e ∧ e < f
    · rw [pw_in he.1 he.2]
      by_cases hek : e = k
      · subst hek; rw [hx]; simp [un]
      · have := hz e.toNat (by omega) (by omega)
        rw [show ((e.toNat : Nat) : Int) = e by omega] at this
        rw [this]; simp [un, hek]
    · rw [pw_out he]; unfold un; rw [if_neg (by omega)]
  refine app_eq (fun v hv => ?_) (fun v hv => ?_)
  · unfold GL
    rcases List.mem_append.mp hv with h | h
    · obtain ⟨i, _, hi, rfl⟩ := fam_mem.mp h
      exact sp_mem (List.mem_append.mpr (Or.inl (fam_mem.mpr ⟨i, by omega, by omega, (hp i (by omega)).symm⟩)))
    · obtain ⟨m, h1, h2, rfl⟩ := fam_mem.mp h
      by_cases e : m = k
      · subst e; exact sp_mem (List.mem_append.mpr (Or.inl (fam_mem.mpr ⟨R, by omega, by omega, hR.symm⟩)))
      · exact sp_mem (List.mem_append.mpr (Or.inr (fam_mem.mpr ⟨m, by omega, by omega, rfl⟩)))
  · unfold GL at hv
    rcases List.mem_append.mp hv with h | h
    · obtain ⟨i, _, hi, rfl⟩ := fam_mem.mp h
      by_cases e : i = R
      · subst e; rw [hR]; exact sp_mem (List.mem_append.mpr (Or.inr (fam_mem.mpr ⟨k, by omega, by omega, rfl⟩)))
      · rw [hp i (by omega)]; exact sp_mem (List.mem_append.mpr (Or.inl (fam_mem.mpr ⟨i, by omega, by omega, rfl⟩)))
    · obtain ⟨m, h1, h2, rfl⟩ := fam_mem.mp h
      exact sp_mem (List.mem_append.mpr (Or.inr (fam_mem.mpr ⟨m, by omega, by omega, rfl⟩)))
theorem bring_take {R k f n : Nat} {D : Int} {r r' lead : Int → Int} (hk : k < f) (hn : n ≤ R) (h0 : ∀ i : Nat, i ≤ R → i ≠ n → r (100 + 6 * i + k) = 0) (hb : ∀ e : Nat, e < k → r (100 + 6 * n + e) = 0)
    (hT : ∀ e : Nat, e < f → r' (184 + 12 * k + lead e) = r (100 + 6 * n + e)) (hT' : ∀ i e : Nat, i < k → e < f → r' (184 + 12 * i + lead e) = r (184 + 12 * i + lead e)) (hn' : ∀ e : Nat, e < f → r' (100 + 6 * n + e) = r (100 + 6 * R + e)) (hs : ∀ i e : Nat, i < R → i ≠ n → e < f → r' (100 + 6 * i + e) = r (100 + 6 * i + e)) :
    spEq (fam (tw r lead f) k 0 ++ GL r D R k f) (fam (tw r' lead f) (k + 1) 0 ++ (fam (pw r' (k + 1) f) R 0 ++ fam (un D) (f - (k + 1)) (k + 1))) := by
  have hz : ∀ i, i ≤ R → i ≠ n → pw r k f i = pw r (k + 1) f i := by
    intro i hi hne
    funext e
    by_cases he : (k : Int) ≤ e ∧ e < f
    · by_cases hek : e = k
      · subst hek; rw [pw_in he.1 he.2, pw_out (by omega), h0 i hi hne]
      · rw [pw_in he.1 he.2, pw_in (by omega) he.2]
    · rw [pw_out he, pw_out (by omega)]
  have hpn : pw r k f n = tw r' lead f k := by
    funext e
    by_cases he : 0 ≤ e ∧ e < f
    · have e1 : ((e.toNat : Nat) : Int) = e := by omega
      have a := hT e.toNat (by omega)
      rw [e1] at a
      rw [tw_in he.1 he.2, a]
      by_cases hek : (k : Int) ≤ e
      · rw [pw_in hek he.2]
      · rw [pw_out (by omega)]
        have b := hb e.toNat (by omega)
        rw [e1] at b; exact b.symm
    · rw [pw_out (by omega), tw_out he]
  have hps : ∀ i, i < R → i ≠ n → pw r' (k + 1) f i = pw r k f i := fun i hi hne => by
    rw [hz i (by omega) hne]; exact pw_congr (fun e _ h1 => hs i e hi hne h1)
  have hpR : n ≠ R → pw r' (k + 1) f n = pw r k f R := fun hne => by
    rw [hz R (by omega) (fun e => hne e.symm)]
    funext e
    by_cases he : ((k + 1 : Nat) : Int) ≤ e ∧ e < f
    · rw [pw_in he.1 he.2, pw_in he.1 he.2]
      have := hn' e.toNat (by omega)
      rwa [show ((e.toNat : Nat) : Int) = e by omega] at this
    · rw [pw_out he, pw_out he]
  have htw : ∀ i, i < k → tw r' lead f i = tw r lead f i := fun i hi => tw_congr (fun e he => hT' i e hi he)
  have inT : ∀ {i}, i < k + 1 → sp (fam (tw r' lead f) (k + 1) 0 ++ (fam (pw r' (k + 1) f) R 0 ++ fam (un D) (f - (k + 1)) (k + 1))) (tw r' lead f i) := fun {i} hi => sp_mem (List.mem_append.mpr (Or.inl (fam_mem.mpr ⟨i, by omega, by omega, rfl⟩)))
  have inP : ∀ {i}, i < R → sp (fam (tw r' lead f) (k + 1) 0 ++ (fam (pw r' (k + 1) f) R 0 ++ fam (un D) (f - (k + 1)) (k + 1))) (pw r' (k + 1) f i) := fun {i} hi => sp_mem (List.mem_append.mpr (Or.inr (List.mem_append.mpr (Or.inl (fam_mem.mpr ⟨i, by omega, by omega, rfl⟩)))))
  have inG : ∀ {i}, i ≤ R → sp (fam (tw r lead f) k 0 ++ GL r D R k f) (pw r k f i) := fun {i} hi => sp_mem (List.mem_append.mpr (Or.inr (List.mem_append.mpr (Or.inl (fam_mem.mpr ⟨i, by omega, by omega, rfl⟩)))))
  refine spEq_of (fun v hv => ?_) (fun v hv => ?_)
  · rcases List.mem_append.mp hv with h | h
    · obtain ⟨i, _, hi, rfl⟩ := fam_mem.mp h
      rw [← htw i (by omega)]; exact inT (by omega)
    · unfold GL at h
      rcases List.mem_append.mp h with h | h
      · obtain ⟨i, _, hi, rfl⟩ := fam_mem.mp h
        by_cases e : i = n
        · subst e; rw [hpn]; exact inT (by omega)
        · by_cases e2 : i = R
          · subst e2; rw [← hpR (fun h => e h.symm)]; exact inP (by omega)
          · rw [← hps i (by omega) e]; exact inP (by omega)
      · exact sp_mem (List.mem_append.mpr (Or.inr (List.mem_append.mpr (Or.inr h))))
  · rcases List.mem_append.mp hv with h | h
    · obtain ⟨i, _, hi, rfl⟩ := fam_mem.mp h
      by_cases e : i = k
      · subst e; rw [← hpn]; exact inG hn
      · rw [htw i (by omega)]; exact sp_mem (List.mem_append.mpr (Or.inl (fam_mem.mpr ⟨i, by omega, by omega, rfl⟩)))
    · rcases List.mem_append.mp h with h | h
      · obtain ⟨i, _, hi, rfl⟩ := fam_mem.mp h
        by_cases e : i = n
        · subst e; rw [hpR (by omega)]; exact inG (by omega)
        · rw [hps i (by omega) e]; exact inG (by omega)
      · exact sp_mem (List.mem_append.mpr (Or.inr (List.mem_append.mpr (Or.inr h))))
theorem bring_end {R f : Nat} {D : Int} {r lead : Int → Int} : spEq (fam (tw r lead f) f 0 ++ (fam (pw r f f) R 0 ++ fam (un D) (f - f) f)) (fam (tw r lead f) f 0) := by
  refine spEq_of (fun v hv => ?_) (fun v hv => sp_mem (List.mem_append.mpr (Or.inl hv)))
  rcases List.mem_append.mp hv with h | h
  · exact sp_mem h
  · rcases List.mem_append.mp h with h | h
    · obtain ⟨i, _, hi, rfl⟩ := fam_mem.mp h
      exact sp_ext sp_zero (fun e => (pw_out (by omega)).symm)
    · rw [Nat.sub_self] at h; simp [fam] at h
