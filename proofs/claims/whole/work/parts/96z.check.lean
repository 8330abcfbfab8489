/-! THE CLASS: check -/
theorem rv_same {s : mo_S} {v v' : Nat → Int} (h : ∀ c, 236 ≤ c → c < 418 → v' c = v c) (hp : prm s) {i : Nat} (hi : i < 7) : rv s v' i = rv s v i := by
  have := hp.1 i hi
  funext j
  unfold rv PR
  split
  · exact h _ (by omega) (by omega)
  · rfl
theorem EC_same {s s' : mo_S} {v v' : Nat → Int} {W N T : Nat} {vs : List Vec} (h : EC s v W N 0 T vs) (h5 : s' 5 = s 5) (hr : ∀ i, i < N → rv s' v' i = rv s v i) : EC s' v' W N 0 T vs := by
  obtain ⟨a, b, c, d, e⟩ := h
  refine ⟨fun i hi => by rw [hr i hi, h5]; exact a i hi, fun i k h1 h2 => by rw [h5]; exact b i k h1 h2, fun i hi => by omega, fun i k h1 h2 h3 => by rw [hr i (by omega), hr k h3, h5]; exact d i k h1 h2 h3, ?_⟩
  rw [fam_congr (u := rv s' v') (v := rv s v) (fun i _ hi => hr i (by omega))]
  exact e
theorem sumP_lin {f g : Int → Int} {c : Int} : ∀ {n : Nat}, sumP (fun k => f k - c * g k) n = sumP f n - c * sumP g n
  | 0 => by simp [sumP]
  | n + 1 => by rw [sumP, sumP, sumP, sumP_lin]; grind
theorem sumP_one {f : Int → Int} {k : Nat} : ∀ {n : Nat}, (∀ i : Nat, i < n → i ≠ k → f i = 0) → sumP f n = if k < n then f k else 0
  | 0, _ => by simp [sumP]
  | n + 1, h => by
    rw [sumP, sumP_one (fun i hi => h i (by omega))]
    by_cases e : k = n
    · subst e; rw [if_neg (by omega), if_pos (by omega)]; omega
    · rw [h n (by omega) (fun e' => e e'.symm)]
      by_cases e' : k < n
      · rw [if_pos e', if_pos (by omega)]; omega
      · rw [if_neg e', if_neg (by omega)]; omega
/-- each row is made of the old rows by the numbers behind it -/
theorem steps_form {s : mo_S} {a R C : Nat} (hC : s 3 a = C) {x : Vec} (hx : sp (fam (ldV s a 0) R 0) x) {j : Int} (j0 : 0 ≤ j) (j1 : j < C) : x j = sumP (fun k => s 1 (36 * a + 6 * k + j) * x (C + k)) R := by
  have h := sp_rel (f := fun z => z j - sumP (fun k => s 1 (36 * a + 6 * k + j) * z (C + k)) R) (by
    try simp only
    rw [sumP_congr (g := fun k => 0 - 0 * 0) (fun k _ => by simp), sumP_lin (f := fun _ => 0) (g := fun _ => 0)]
    rw [show sumP (fun _ => 0) R = 0 from by
      have := sumP_one (f := fun _ => (0 : Int)) (k := R) (n := R) (fun _ _ _ => rfl)
      rw [this]; split <;> rfl]; rfl) (fun x v c => by
    try simp only
    rw [sumP_congr (g := fun k => s 1 (36 * a + 6 * k + j) * x (C + k) - c * (s 1 (36 * a + 6 * k + j) * v (C + k))) (fun k _ => by grind), sumP_lin (f := fun k => s 1 (36 * a + 6 * k + j) * x (C + k)) (g := fun k => s 1 (36 * a + 6 * k + j) * v (C + k))]
    grind) (fun v hv => by
    obtain ⟨i, _, hi, rfl⟩ := fam_mem.mp hv
    try simp only
    have hd := ldV_diag (s := s) (m := a) (i := i) (F := C) (tn := 0) (by rw [if_neg (by decide)]; exact hC)
    rw [sumP_one (k := i) (fun k hk hne => by
      have := hd.2 k hne
      rw [show ((C + k : Nat) : Int) = (C : Int) + k by omega] at this
      rw [this, Int.mul_zero]), if_pos (by omega)]
    have h1 := hd.1
    rw [show ((C + i : Nat) : Int) = (C : Int) + i by omega] at h1
    rw [h1, Int.mul_one]
    have h01 : ¬ (0 : Int) = 1 := by decide
    unfold ldV
    rw [if_neg h01, if_neg h01, hC, if_pos ⟨j0, j1⟩]
    omega) hx
  have h' : x j - sumP (fun k => s 1 (36 * a + 6 * k + j) * x (C + k)) R = 0 := h
  omega
theorem det_colmap (φ : Int → Int) : ∀ (vs : List Vec) (J : List Int), det (vs.map (fun v j => v (φ j))) J = det vs (J.map φ)
  | [], _ => rfl
  | v :: vs, J => by
    rw [List.map_cons, det_cons, det_cons, picks_map, asum_map]
    exact asum_congr (fun p _ => by simp only; rw [det_colmap φ vs])
theorem els_full : ∀ (R : Fin 7) (i : Fin 6), (i : Nat) < (R : Nat) → ((i : Nat) : Int) ∈ els 6 (2 ^ (R : Nat) - 1) := by decide
/-- the steps have determinant 1 or -1 -/
theorem unit_det {s s1 : mo_S} {v1 : Nat → Int} {a R C W : Nat} (hR6 : R ≤ 6) (hC : s 3 a = C) (hE : EC s1 v1 W R 0 465 (fam (ldV s a 0) R 0)) {g : Int → Int} (hg : ∀ i j : Nat, i < R → j < R → g (12 * i + j) = rv s1 v1 i (C + j)) : (dY g (els R (2 ^ R - 1)) (2 ^ R - 1)).natAbs = 1 := by
  have hall := els_all ⟨R, by omega⟩
  simp only at hall
  obtain ⟨E, hEe⟩ : ∃ E, E = els 6 (2 ^ R - 1) := ⟨_, rfl⟩
  have hfull : ∀ i : Nat, i < R → (i : Int) ∈ E := fun i hi => by
    have := els_full ⟨R, by omega⟩ ⟨i, by omega⟩ hi
    rw [hEe]; exact this
  have hmem : ∀ i, i ∈ E → 0 ≤ i ∧ i < R := fun i hi => by rw [hEe, hall.1] at hi; exact els_mem hi
  have hnd : E.Nodup := by
    rw [hEe]
    have := S_pow hR6
    have : (0 : Int) < 2 ^ R := Int.pow_pos (by decide)
    exact S_nd (by omega) (by omega)
  have hlen : E.length = R := by rw [hEe]; exact hall.2
  unfold dY
  rw [← hall.1, ← hEe]
  have e1 : det (E.map (fun i j => g (12 * i + j))) E = det (E.map (fun i => rv s1 v1 i.toNat)) (E.map (fun j => (C : Int) + j)) := by
    rw [← det_colmap, List.map_map]
    refine det_map_congr (fun i hi j hj => ?_)
    obtain ⟨i0, i1⟩ := hmem i hi
    obtain ⟨j0, j1⟩ := hmem j hj
    obtain ⟨i, rfl⟩ := Int.eq_ofNat_of_zero_le i0
    obtain ⟨j, rfl⟩ := Int.eq_ofNat_of_zero_le j0
    rw [hg i j (by omega) (by omega)]
    simp
  rw [e1]
  have hF : (if (0 : Int) = 1 then s 2 a else s 3 a) = C := by rw [if_neg (by decide)]; exact hC
  -- the old rows
  have e2 : det (E.map (fun i => ldV s a 0 i.toNat)) (E.map (fun j => (C : Int) + j)) = 1 := by
    have ht : ∀ (l : List Int), l.Nodup → (∀ i, i ∈ l → 0 ≤ i) → tri (l.map (fun i => ((C : Int) + i, ldV s a 0 i.toNat))) ∧ lpr (l.map (fun i => ((C : Int) + i, ldV s a 0 i.toNat))) = 1 := by
      intro l
      induction l with
      | nil => intro _ _; exact ⟨trivial, rfl⟩
      | cons i t ih =>
        intro hn hp
        obtain ⟨h1, h2⟩ := List.nodup_cons.mp hn
        have hi0 := hp i List.mem_cons_self
        obtain ⟨i, rfl⟩ := Int.eq_ofNat_of_zero_le hi0
        have ih' := ih h2 (fun k hk => hp k (List.mem_cons_of_mem _ hk))
        refine ⟨⟨fun q hq => ?_, ih'.1⟩, ?_⟩
        · obtain ⟨k, hk, rfl⟩ := List.mem_map.mp hq
          have hk0 := hp k (List.mem_cons_of_mem _ hk)
          obtain ⟨k, rfl⟩ := Int.eq_ofNat_of_zero_le hk0
          show ldV s a 0 (k : Int).toNat ((C : Int) + (i : Int)) = 0
          rw [Int.toNat_natCast]
          have := (ldV_diag (s := s) (m := a) (i := k) hF).2 i (fun e => h1 (by rw [e]; exact hk))
          rw [show ((C + i : Nat) : Int) = (C : Int) + i by omega] at this
          exact this
        · show ldV s a 0 (i : Int).toNat ((C : Int) + (i : Int)) * _ = 1
          rw [ih'.2, Int.toNat_natCast]
          have := (ldV_diag (s := s) (m := a) (i := i) hF).1
          rw [show ((C + i : Nat) : Int) = (C : Int) + i by omega] at this
          rw [this]; rfl
    have := ht E hnd (fun i hi => (hmem i hi).1)
    have hd := det_tri this.1
    rw [this.2] at hd
    unfold vv at hd
    rw [List.map_map, List.map_map] at hd
    exact hd
  have hdv : det (E.map (fun i => rv s1 v1 i.toNat)) (E.map (fun j => (C : Int) + j)) ∣ det (E.map (fun i => ldV s a 0 i.toNat)) (E.map (fun j => (C : Int) + j)) := by
    refine det_mult (fun x hx => ?_) (by rw [List.length_map, List.length_map])
    obtain ⟨i, hi, rfl⟩ := List.mem_map.mp hx
    obtain ⟨i0, i1⟩ := hmem i hi
    have h1 : sp (fam (rv s1 v1) R 0) (ldV s a 0 i.toNat) := (hE.2.2.2.2 _).mpr (sp_mem (fam_mem.mpr ⟨i.toNat, by omega, by omega, rfl⟩))
    refine sp_sub' (fun y hy => ?_) h1
    obtain ⟨k, _, hk, rfl⟩ := fam_mem.mp hy
    exact sp_mem (List.mem_map.mpr ⟨(k : Int), hfull k (by omega), by rw [Int.toNat_natCast]⟩)
  rw [e2] at hdv
  have := Int.natAbs_dvd_natAbs.mpr hdv
  exact Nat.dvd_one.mp this
section CHECK
variable {xs : List Int32} {fr lo : Nat} {w0 w : ax_W} {s : mo_S} {v : Nat → Int} {L Z : Nat}
theorem isL_loop {r c : Nat} (hC : CW w0 w s v L Z) (hpm : prm s) (hr : r < 7) (hc : c < 12) (hab : ∀ k : Nat, k < r → 0 ≤ rv s v k c ∧ rv s v k c < rv s v r c) (hfr : 2 ≤ fr) (hlo : 60 ≤ lo) :
    ∀ (n k : Nat) (y5 : Option Value), k + n = r → fin xs fr lo 112 19 [some (.ref 232), some (.int (jI (r : Int))), some (.int (jI (c : Int))), some (.ref (238 + 26 * (s 6 r).toNat + 2 * c)), some (.int (jI (k : Int))), y5] [] w (Same (.int (jI 1)) w) := by
  intro n
  induction n with
  | zero =>
    intro k y5 hk
    refine fi_step (pc' := 21) m_St_isLead rfl rfl ?_
    refine fi_step (pc' := 22) m_St_isLead rfl rfl ?_
    refine s_ic_ge (p := 25) m_St_isLead rfl rfl (by omega) (by omega) (by omega) (by omega) (fun hbr => ?_) (fun hbr => False.elim (by omega))
    refine fi_step (pc' := 60) m_St_isLead rfl rfl ?_
    exact s_retb m_St_isLead rfl rfl (by omega) (by first | exact Or.inl rfl | exact Or.inr rfl | omega)
  | succ n ih =>
    intro k y5 hk
    have hp := hpm.1 k (by omega)
    have hq := hpm.1 r hr
    have hne := rv_ne hpm (show k < 7 by omega) hr (by omega)
    have iA : isWh (238 + 26 * (s 6 k).toNat + 2 * c) := i_row (by omega) hc
    have iB : isWh (238 + 26 * (s 6 r).toNat + 2 * c) := i_row (by omega) hc
    have eA : rv s v k c = v (238 + 26 * (s 6 k).toNat + 2 * c) := PR_at v _ hc
    have eB : rv s v r c = v (238 + 26 * (s 6 r).toNat + 2 * c) := PR_at v _ hc
    have hh := hab k (by omega)
    obtain ⟨d, cap, f, kk, b, hw, hv, _, _⟩ := CW_TW hC iA
    have hneg := Wv_neg hv
    have hb01 := Wv_b hv
    have hless := cn_less (xs := xs) (fr := fr - 1) (lo := lo - (3 + 19)) hC iA iB (by omega)
    rw [if_pos (by omega)] at hless
    refine fi_step (pc' := 21) m_St_isLead rfl rfl ?_
    refine fi_step (pc' := 22) m_St_isLead rfl rfl ?_
    refine s_ic_ge (p := 25) m_St_isLead rfl rfl (by omega) (by omega) (by omega) (by omega) (fun hbr => False.elim (by omega)) (fun hbr => ?_)
    refine fi_step (pc' := 26) m_St_isLead rfl rfl ?_
    refine fi_step (pc' := 28) m_St_isLead rfl rfl ?_
    refine fi_step (pc' := 29) m_St_isLead rfl rfl ?_
    refine c_3 (p := 32) m_St_isLead rfl inv_v (by decide) m_St_number rfl rfl (by omega) (by omega) (Nat.le_of_ble_eq_true rfl) (Nat.le_of_ble_eq_true rfl) (C_rcvS hC _) (st_number hC (by omega) hc hp) ?_
    refine fi_step (pc' := 34) m_St_isLead rfl rfl ?_
    refine fi_step (pc' := 36) m_St_isLead rfl rfl ?_
    first | refine t_get (p := 39) m_St_isLead rfl rfl (by assumption) rfl ?_ | refine o_get (p := 39) m_St_isLead rfl rfl (by assumption) (by assumption) rfl ?_
    refine s_if_ne (p := 42) m_St_isLead rfl rfl (by omega) (by omega) (fun hbr => False.elim (by omega)) (fun hbr => ?_)
    refine fi_step (pc' := 44) m_St_isLead rfl rfl ?_
    refine fi_step (pc' := 45) m_St_isLead rfl rfl ?_
    refine c_2 (p := 48) m_St_isLead rfl inv_v (by decide) m_Wh_isSmallerThan rfl rfl (by omega) (by omega) (Nat.le_of_ble_eq_true rfl) (Nat.le_of_ble_eq_true rfl) (C_rcvW hC (by first | assumption | exact rfl) _) hless ?_
    refine s_if_ne (p := 51) m_St_isLead rfl rfl (by omega) (by omega) (fun hbr => ?_) (fun hbr => False.elim (by omega))
    refine s_iinc (p := 56) m_St_isLead rfl rfl rfl ?_
    refine fi_step (pc' := 19) m_St_isLead rfl rfl ?_
    rw [show (k : Int) + 1 = ((k + 1 : Nat) : Int) by omega]
    exact ih (k + 1) _ (by omega)
theorem st_isLead {r c : Nat} (hC : CW w0 w s v L Z) (hpm : prm s) (hr : r < 7) (hc : c < 12) (hl : 0 < rv s v r c) (hab : ∀ k : Nat, k < r → 0 ≤ rv s v k c ∧ rv s v k c < rv s v r c) (hfr : 2 ≤ fr) (hlo : 60 ≤ lo) :
    fin xs fr lo 112 0 (ax_ent [.ref 232, .int (jI (r : Int)), .int (jI (c : Int))] 6) [] w (Same (.int (jI 1)) w) := by
  have hq := hpm.1 r hr
  have iB : isWh (238 + 26 * (s 6 r).toNat + 2 * c) := i_row (by omega) hc
  have eB : rv s v r c = v (238 + 26 * (s 6 r).toNat + 2 * c) := PR_at v _ hc
  obtain ⟨d, cap, f, kk, b, hw, hv, _, _⟩ := CW_TW hC iB
  have hneg := Wv_neg hv
  have hb01 := Wv_b hv
  refine fi_step (pc' := 1) m_St_isLead rfl rfl ?_
  refine fi_step (pc' := 2) m_St_isLead rfl rfl ?_
  refine fi_step (pc' := 3) m_St_isLead rfl rfl ?_
  refine c_3 (p := 6) m_St_isLead rfl inv_v (by decide) m_St_number rfl rfl (by omega) (by omega) (Nat.le_of_ble_eq_true rfl) (Nat.le_of_ble_eq_true rfl) (C_rcvS hC _) (st_number hC hr hc hq) ?_
  refine fi_step (pc' := 7) m_St_isLead rfl rfl ?_
  refine fi_step (pc' := 8) m_St_isLead rfl rfl ?_
  first | refine t_get (p := 11) m_St_isLead rfl rfl (by assumption) rfl ?_ | refine o_get (p := 11) m_St_isLead rfl rfl (by assumption) (by assumption) rfl ?_
  refine s_if_eq (p := 14) m_St_isLead rfl rfl (by omega) (by omega) (fun hbr => ?_) (fun hbr => False.elim (by omega))
  refine fi_step (pc' := 17) m_St_isLead rfl rfl ?_
  refine fi_step (pc' := 19) m_St_isLead rfl rfl ?_
  exact isL_loop hC hpm hr hc hab hfr hlo r 0 _ (by omega)
theorem isH_loop {H F W T : Nat} {vs : List Vec} (hC : CW w0 w s v L Z) (hpm : prm s) (hE : EC s v W H 0 T vs) (hH : H ≤ 6) (hF : F ≤ W) (W12 : W ≤ 12) (hfr : 3 ≤ fr) (hlo : 90 ≤ lo) :
    ∀ (n i : Nat) (la : Int) (y5 : Option Value), i + n = H → -1 ≤ la → la ≤ 12 → (∀ m : Nat, i ≤ m → m < H → la < s 5 m) → fin xs fr lo 111 5 [some (.ref 232), some (.int (jI (H : Int))), some (.int (jI (F : Int))), some (.int (jI la)), some (.int (jI (i : Int))), y5] [] w (Same (.int (jI 1)) w) := by
  intro n
  induction n with
  | zero =>
    intro i la y5 hi l0 l1 hl'
    refine fi_step (pc' := 7) m_St_isHermite rfl rfl ?_
    refine fi_step (pc' := 8) m_St_isHermite rfl rfl ?_
    refine s_ic_ge (p := 11) m_St_isHermite rfl rfl (by omega) (by omega) (by omega) (by omega) (fun hbr => ?_) (fun hbr => False.elim (by omega))
    refine fi_step (pc' := 59) m_St_isHermite rfl rfl ?_
    exact s_retb m_St_isHermite rfl rfl (by omega) (by first | exact Or.inl rfl | exact Or.inr rfl | omega)
  | succ n ih =>
    intro i la y5 hi l0 l1 hl'
    obtain ⟨p, ep⟩ : ∃ p : Nat, s 6 i = p := ⟨(s 6 i).toNat, by have := hpm.1 i (by omega); omega⟩
    have hp : p < 7 := by have := hpm.1 i (by omega); omega
    have rp : rv s v i = PR v p := by unfold rv; rw [ep, Int.toNat_natCast]
    obtain ⟨⟨c0, c1⟩, cp, cz, _⟩ := hE.1 i (by omega)
    rw [rp] at cp cz
    have hinc : ∀ m : Nat, i + 1 ≤ m → m < H → s 5 i < s 5 m := fun m a b => hE.2.1 i m (by omega) b
    have hla := hl' i (Nat.le_refl _) (by omega)
    refine fi_step (pc' := 7) m_St_isHermite rfl rfl ?_
    refine fi_step (pc' := 8) m_St_isHermite rfl rfl ?_
    refine s_ic_ge (p := 11) m_St_isHermite rfl rfl (by omega) (by omega) (by omega) (by omega) (fun hbr => False.elim (by omega)) (fun hbr => ?_)
    refine fi_step (pc' := 12) m_St_isHermite rfl rfl ?_
    refine k_get (p := 15) m_St_isHermite rfl rfl (by first | exact C_print hC | exact C_minors hC | exact C_stairs hC | exact (CW_cst hC).2.1 | exact C_mat hC (by omega) | exact ((CW_cst hC).2.2.2.2.2.2 _ (by omega)).1 | assumption) rfl ?_
    refine fi_step (pc' := 17) m_St_isHermite rfl rfl ?_
    refine r_ldR (p := 18) m_St_isHermite rfl rfl hC (by omega) (by omega) ?_
    rw [ep, Int.toNat_natCast]
    refine fi_step (pc' := 19) m_St_isHermite rfl rfl ?_
    refine g_2 (p := 22) m_St_isHermite rfl inv_v (by decide) m_Ro_lead rfl rfl (by omega) (by omega) (Nat.le_of_ble_eq_true rfl) (Nat.le_of_ble_eq_true rfl) (C_rcvR hC (by omega) _) (ro_lead (E := F) hC hp (by omega) (by omega) (by omega)) (fun v w hP => ?_)
    obtain ⟨rfl, ld, rfl, hld⟩ := hP
    by_cases hlt : s 5 i < F
    · have hld5 : (ld : Int) = s 5 i := by
        rcases Int.lt_trichotomy (ld : Int) (s 5 i) with e | e | e
        · exact absurd (cz ld e) (hld.2.2 (by omega))
        · exact e
        · have := hld.2.1 (s 5 i) e c0; omega
      have hisl := st_isLead (xs := xs) (fr := fr - 1) (lo := lo - 25) (r := i) (c := ld) hC hpm (by omega) (by omega) (by rw [hld5, rp]; exact cp) (fun k hk => by rw [hld5]; exact hE.2.2.2.1 k i (by omega) hk (by omega)) (by omega) (by omega)
      refine fi_step (pc' := 24) m_St_isHermite rfl rfl ?_
      refine fi_step (pc' := 26) m_St_isHermite rfl rfl ?_
      refine fi_step (pc' := 27) m_St_isHermite rfl rfl ?_
      refine s_ic_ge (p := 30) m_St_isHermite rfl rfl (by omega) (by omega) (by omega) (by omega) (fun hbr => False.elim (by omega)) (fun hbr => ?_)
      refine fi_step (pc' := 32) m_St_isHermite rfl rfl ?_
      refine fi_step (pc' := 33) m_St_isHermite rfl rfl ?_
      refine s_ic_le (p := 36) m_St_isHermite rfl rfl (by omega) (by omega) (by omega) (by omega) (fun hbr => False.elim (by omega)) (fun hbr => ?_)
      refine fi_step (pc' := 37) m_St_isHermite rfl rfl ?_
      refine fi_step (pc' := 39) m_St_isHermite rfl rfl ?_
      refine fi_step (pc' := 41) m_St_isHermite rfl rfl ?_
      refine c_3 (p := 44) m_St_isHermite rfl inv_v (by decide) m_St_isLead rfl rfl (by omega) (by omega) (Nat.le_of_ble_eq_true rfl) (Nat.le_of_ble_eq_true rfl) (C_rcvS hC _) (st_isLead (r := i) (c := ld) hC hpm (by omega) (by omega) (by rw [hld5, rp]; exact cp) (fun k hk => by rw [hld5]; exact hE.2.2.2.1 k i (by omega) hk (by omega)) (by omega) (by omega)) ?_
      refine s_if_ne (p := 47) m_St_isHermite rfl rfl (by omega) (by omega) (fun hbr => ?_) (fun hbr => False.elim (by omega))
      refine fi_step (pc' := 51) m_St_isHermite rfl rfl ?_
      refine fi_step (pc' := 52) m_St_isHermite rfl rfl ?_
      refine s_iinc (p := 55) m_St_isHermite rfl rfl rfl ?_
      refine fi_step (pc' := 5) m_St_isHermite rfl rfl ?_
      rw [show (i : Int) + 1 = ((i + 1 : Nat) : Int) by omega]
      exact ih (i + 1) ld _ (by omega) (by omega) (by omega) (fun m a b => by have := hinc m a b; omega)
    · have hldF : ld = F := by
        refine Classical.byContradiction (fun hne => ?_)
        have := hld.1
        exact hld.2.2 (by omega) (cz ld (by omega))
      subst hldF
      refine fi_step (pc' := 24) m_St_isHermite rfl rfl ?_
      refine fi_step (pc' := 26) m_St_isHermite rfl rfl ?_
      refine fi_step (pc' := 27) m_St_isHermite rfl rfl ?_
      refine s_ic_ge (p := 30) m_St_isHermite rfl rfl (by omega) (by omega) (by omega) (by omega) (fun hbr => ?_) (fun hbr => False.elim (by omega))
      refine fi_step (pc' := 51) m_St_isHermite rfl rfl ?_
      refine fi_step (pc' := 52) m_St_isHermite rfl rfl ?_
      refine s_iinc (p := 55) m_St_isHermite rfl rfl rfl ?_
      refine fi_step (pc' := 5) m_St_isHermite rfl rfl ?_
      rw [show (i : Int) + 1 = ((i + 1 : Nat) : Int) by omega]
      exact ih (i + 1) ld _ (by omega) (by omega) (by omega) (fun m a b => by have := hinc m a b; omega)
theorem st_isHermite {H F W T : Nat} {vs : List Vec} (hC : CW w0 w s v L Z) (hpm : prm s) (hE : EC s v W H 0 T vs) (hH : H ≤ 6) (hF : F ≤ W) (W12 : W ≤ 12) (hfr : 3 ≤ fr) (hlo : 90 ≤ lo) :
    fin xs fr lo 111 0 (ax_ent [.ref 232, .int (jI (H : Int)), .int (jI (F : Int))] 6) [] w (Same (.int (jI 1)) w) := by
  refine fi_step (pc' := 1) m_St_isHermite rfl rfl ?_
  refine fi_step (pc' := 2) m_St_isHermite rfl rfl ?_
  refine fi_step (pc' := 3) m_St_isHermite rfl rfl ?_
  refine fi_step (pc' := 5) m_St_isHermite rfl rfl ?_
  exact isH_loop hC hpm hE hH hF W12 hfr hlo H 0 (-1) _ (by omega) (by omega) (by omega) (fun m _ hm => by have := (hE.1 m hm).1; omega)
end CHECK
