/-! determinants and lattices -/
theorem det_perm {l l' : List Vec} (h : l.Perm l') : ∃ e : Int, (e = 1 ∨ e = -1) ∧ ∀ J, det l J = e * det l' J := by
  induction h with
  | nil => exact ⟨1, Or.inl rfl, fun J => by simp⟩
  | cons v _ ih =>
    obtain ⟨e, he, h⟩ := ih
    exact ⟨e, he, fun J => det_tail h v J⟩
  | swap u v l => exact ⟨-1, Or.inr rfl, fun J => by rw [det_swap]; omega⟩
  | trans _ _ ih1 ih2 =>
    obtain ⟨e, he, h⟩ := ih1
    obtain ⟨f, hf, h'⟩ := ih2
    refine ⟨e * f, ?_, fun J => by rw [h, h', Int.mul_assoc]⟩
    rcases he with rfl | rfl <;> rcases hf with rfl | rfl <;> simp
theorem detC_perm {l l' : List Int} (h : l.Perm l') : ∃ e : Int, (e = 1 ∨ e = -1) ∧ ∀ vs, detC vs l = e * detC vs l' := by
  induction h with
  | nil => exact ⟨1, Or.inl rfl, fun J => by simp⟩
  | cons j _ ih =>
    obtain ⟨e, he, h⟩ := ih
    refine ⟨e, he, fun vs => ?_⟩
    rw [detC_cons, detC_cons, ← asum_mul]
    exact asum_congr (fun p hp => by rw [h]; grind)
  | swap u v l => exact ⟨-1, Or.inr rfl, fun J => by rw [detC_swap]; omega⟩
  | trans _ _ ih1 ih2 =>
    obtain ⟨e, he, h⟩ := ih1
    obtain ⟨f, hf, h'⟩ := ih2
    refine ⟨e * f, ?_, fun J => by rw [h, h', Int.mul_assoc]⟩
    rcases he with rfl | rfl <;> rcases hf with rfl | rfl <;> simp
theorem picks_perm {α : Type} : ∀ {xs : List α} {p : α × List α}, p ∈ picks xs → (p.1 :: p.2).Perm xs
  | x :: xs, p, h => by
    rw [picks] at h
    rcases List.mem_cons.mp h with e | e
    · subst e; exact List.Perm.refl _
    · obtain ⟨q, hq, rfl⟩ := List.mem_map.mp e
      exact (List.Perm.swap x q.1 q.2).trans (List.Perm.cons x (picks_perm hq))
theorem picks_of_mem {α : Type} : ∀ {xs : List α} {x : α}, x ∈ xs → ∃ l, (x, l) ∈ picks xs
  | y :: xs, x, h => by
    rcases List.mem_cons.mp h with e | e
    · subst e; exact ⟨xs, List.mem_cons_self ..⟩
    · obtain ⟨l, hl⟩ := picks_of_mem e
      exact ⟨y :: l, List.mem_cons_of_mem _ (List.mem_map.mpr ⟨(x, l), hl, rfl⟩)⟩
theorem det_dup : ∀ {l : List Vec}, ¬ l.Nodup → ∀ J, det l J = 0
  | [], h, _ => absurd List.nodup_nil h
  | v :: l, h, J => by
    by_cases hv : v ∈ l
    · exact det_same hv
    · have : ¬ l.Nodup := fun hn => h (List.nodup_cons.mpr ⟨hv, hn⟩)
      rw [det_cons, asum_congr (g := fun _ => 0) (fun p hp => by rw [det_dup this]; simp), asum_zero]
theorem nodup_in {α : Type} : ∀ {l A : List α}, l.Nodup → (∀ v, v ∈ l → v ∈ A) → l.length ≤ A.length ∧ (l.length = A.length → l.Perm A)
  | [], A, _, _ => ⟨by simp, fun h => by
      have : A = [] := List.eq_nil_of_length_eq_zero (by simpa using h.symm)
      subst this; exact List.Perm.nil⟩
  | v :: l, A, hn, hA => by
    obtain ⟨s, t, rfl⟩ := List.append_of_mem (hA v (List.mem_cons_self ..))
    have hn := List.nodup_cons.mp hn
    have := nodup_in (A := s ++ t) hn.2 (fun u hu => by
      have h1 := hA u (List.mem_cons_of_mem _ hu)
      rw [List.mem_append, List.mem_cons] at h1
      rw [List.mem_append]
      rcases h1 with h | h | h
      · exact Or.inl h
      · subst h; exact absurd hu hn.1
      · exact Or.inr h)
    simp only [List.length_append, List.length_cons] at this ⊢
    refine ⟨by omega, fun h => ?_⟩
    exact (List.Perm.cons v (this.2 (by omega))).trans List.perm_middle.symm
theorem det_span {A : List Vec} {d : Int} {J : List Int} {q : Nat} (hA : ∀ l : List Vec, l.length = q → (∀ v, v ∈ l → v ∈ A) → d ∣ det l J) :
    ∀ (vs us : List Vec), (∀ v, v ∈ vs → sp A v) → (∀ u, u ∈ us → u ∈ A) → vs.length + us.length = q → d ∣ det (vs ++ us) J
  | [], us, _, hu, hl => hA us (by simpa using hl) hu
  | v :: vs, us, hv, hu, hl => by
    have key : ∀ a, a ∈ A → d ∣ det (a :: (vs ++ us)) J := by
      intro a ha
      have h1 := det_span hA vs (a :: us) (fun w hw => hv w (List.mem_cons_of_mem _ hw)) (fun w hw => by
        rcases List.mem_cons.mp hw with e | e
        · subst e; exact ha
        · exact hu w e) (by simp only [List.length_cons] at hl ⊢; omega)
      obtain ⟨e, he, h⟩ := det_perm (List.perm_middle (a := a) (l₁ := vs) (l₂ := us)).symm
      rw [h J]
      exact Int.dvd_mul_of_dvd_right h1
    have lin : ∀ {B : List Vec} {x : Vec}, (∀ a, a ∈ B → d ∣ det (a :: (vs ++ us)) J) → sp B x → d ∣ det (x :: (vs ++ us)) J := by
      intro B
      induction B with
      | nil =>
        intro x _ hx
        rw [show x = (fun j => 0 * x j + 0 * x j) from funext fun j => by rw [hx j]; simp, det_lin]
        simp
      | cons a B ih =>
        intro x hB hx
        obtain ⟨c, hx⟩ := hx
        have h1 := ih (fun b hb => hB b (List.mem_cons_of_mem _ hb)) hx
        have h2 := hB a (List.mem_cons_self ..)
        rw [show x = (fun j => 1 * (x j - c * a j) + c * a j) from funext fun j => by grind, det_lin]
        exact Int.dvd_add (Int.dvd_mul_of_dvd_right h1) (Int.dvd_mul_of_dvd_right h2)
    exact lin key (hv v (List.mem_cons_self ..))
/-- more rows than the lattice has: 0 -/
theorem det_more {A vs : List Vec} {J : List Int} (hv : ∀ v, v ∈ vs → sp A v) (hl : A.length < vs.length) : det vs J = 0 := by
  have := det_span (A := A) (d := 0) (J := J) (q := vs.length) (fun l hl' hA => by
    rw [det_dup (fun hn => by have := (nodup_in hn hA).1; omega)]
    exact Int.dvd_refl 0) vs [] hv (fun u hu => by simp at hu) (by simp)
  rw [List.append_nil] at this
  exact Int.zero_dvd.mp this
/-- as many rows as the lattice has: a multiple -/
theorem det_mult {A vs : List Vec} {J : List Int} (hv : ∀ v, v ∈ vs → sp A v) (hl : A.length = vs.length) : det A J ∣ det vs J := by
  have := det_span (A := A) (d := det A J) (J := J) (q := vs.length) (fun l hl' hA => by
    by_cases hn : l.Nodup
    · obtain ⟨e, _, h⟩ := det_perm ((nodup_in hn hA).2 (by omega))
      rw [h J]; exact Int.dvd_mul_of_dvd_right (Int.dvd_refl _)
    · rw [det_dup hn]; exact Int.dvd_zero _) vs [] hv (fun u hu => by simp at hu) (by simp)
  rwa [List.append_nil] at this
/-- along the rows a column of minors is a combination of them: the determinant at one column alone -/
theorem adj_row {vs : List Vec} {J : List Int} (hl : vs.length = J.length) {j0 : Int} (hj : j0 ∈ J) : ∃ x, sp vs x ∧ x j0 = det vs J ∧ ∀ j, j ∈ J → j ≠ j0 → x j = 0 := by
  obtain ⟨l, hp⟩ := picks_of_mem hj
  have hperm := picks_perm hp
  obtain ⟨e, he, h⟩ := detC_perm hperm
  simp only at h hperm
  have hs : sp vs (fun j => detC vs (j :: l)) := by
    have := sp_asum (vs := vs) (fun p : Vec × List Vec => p.1) (fun p => detC p.2 l) (ps := picks vs) (fun p hp => sp_mem (picks_mem hp).1)
    exact sp_ext this (fun j => by rw [detC_cons])
  refine ⟨_, sp_mul e hs, ?_, fun j hj hne => ?_⟩
  · show e * detC vs (j0 :: l) = det vs J
    rw [h vs, ← Int.mul_assoc, show e * e = 1 by rcases he with rfl | rfl <;> rfl, Int.one_mul, detC_eq _ vs J rfl hl.symm]
  · show e * detC vs (j :: l) = 0
    have hm : j ∈ j0 :: l := hperm.mem_iff.mpr hj
    rcases List.mem_cons.mp hm with q | q
    · exact absurd q hne
    · rw [detC_same q, Int.mul_zero]
/-- whole numbers that are closed under combinations are the multiples of one -/
theorem ideal_one {I : Int → Prop} (h0 : I 0) (hs : ∀ a b c, I a → I b → I (a - c * b)) : ∃ g, I g ∧ ∀ a, I a → g ∣ a := by
  by_cases hn : ∃ n : Nat, 0 < n ∧ I n
  · obtain ⟨n, hn⟩ := hn
    have : ∃ m : Nat, (0 < m ∧ I m) ∧ ∀ k : Nat, k < m → ¬ (0 < k ∧ I k) := by
      induction n using Nat.strongRecOn with
      | ind n ih =>
        by_cases h : ∃ k : Nat, k < n ∧ (0 < k ∧ I k)
        · obtain ⟨k, hk, hk'⟩ := h; exact ih k hk hk'
        · exact ⟨n, hn, fun k hk hk' => h ⟨k, hk, hk'⟩⟩
    obtain ⟨m, ⟨m0, hm⟩, hmin⟩ := this
    refine ⟨m, hm, fun a ha => ?_⟩
    have h1 := hs a m (a / m) ha hm
    have e : a - a / (m : Int) * m = a % m := by have := Int.emod_add_mul_ediv a m; grind
    rw [e] at h1
    have p := Int.emod_nonneg a (show (m : Int) ≠ 0 by omega)
    have q := Int.emod_lt_of_pos a (show (0 : Int) < m by omega)
    by_cases hz : a % m = 0
    · exact Int.dvd_of_emod_eq_zero hz
    · exact absurd ⟨by omega, by rw [Int.toNat_of_nonneg p]; exact h1⟩ (hmin (a % m).toNat (by omega))
  · refine ⟨0, h0, fun a ha => ?_⟩
    have : a = 0 := by
      refine Classical.byContradiction (fun hz => hn ?_)
      by_cases hp : 0 < a
      · exact ⟨a.toNat, by omega, by rw [Int.toNat_of_nonneg (by omega)]; exact ha⟩
      · refine ⟨(-a).toNat, by omega, ?_⟩
        rw [Int.toNat_of_nonneg (by omega)]
        have := hs 0 a 1 h0 ha
        rwa [show 0 - 1 * a = -a by omega] at this
    rw [this]; exact Int.dvd_refl 0
/-- the common divisor of all minors at these columns, at one column alone -/
theorem dgcd_row {vs : List Vec} {J : List Int} {D : Int} (hD : ∀ d, (∀ l : List Vec, l.length = J.length → (∀ v, v ∈ l → v ∈ vs) → d ∣ det l J) → d ∣ D) {j0 : Int} (hj : j0 ∈ J) : ∃ x, sp vs x ∧ x j0 = D ∧ ∀ j, j ∈ J → j ≠ j0 → x j = 0 := by
  obtain ⟨g, ⟨y, y1, y2, y3⟩, hg⟩ := ideal_one (I := fun n => ∃ x, sp vs x ∧ x j0 = n ∧ ∀ j, j ∈ J → j ≠ j0 → x j = 0) ⟨fun _ => 0, sp_zero, rfl, fun _ _ _ => rfl⟩ (by
    rintro a b c ⟨x, x1, x2, x3⟩ ⟨y, y1, y2, y3⟩
    refine ⟨fun j => 1 * x j + (-c) * y j, sp_lin 1 (-c) x1 y1, by simp only [x2, y2]; grind, fun j hj hne => by simp only [x3 j hj hne, y3 j hj hne]; simp⟩)
  obtain ⟨k, hk⟩ := hD g (fun l hl hm => by
    obtain ⟨x, x1, x2, x3⟩ := adj_row hl hj
    exact hg _ ⟨x, sp_sub' (fun v hv => sp_mem (hm v hv)) x1, x2, x3⟩)
  exact ⟨fun j => k * y j, sp_mul k y1, by simp only [y2]; rw [hk, Int.mul_comm], fun j hj hne => by simp only [y3 j hj hne, Int.mul_zero]⟩
/-- a relation between columns: where all minors of one more vanish -/
theorem col_rel {vs B : List Vec} {J : List Int} {j : Int} (hz : ∀ v, v ∈ vs → det (v :: B) (j :: J) = 0) {x : Vec} (hx : sp vs x) : det B J * x j = asum (fun q => x q.1 * det B (j :: q.2)) (picks J) := by
  have := sp_rel (f := fun x => det (x :: B) (j :: J)) (by
    rw [show (fun _ => 0 : Vec) = (fun j => 0 * (0 : Int) + 0 * 0) from funext fun j => by simp]
    have := det_lin (fun _ => 0) (fun _ => 0) 0 0 B (j :: J)
    rw [this]; simp) (fun x v c => by
    have := det_lin x v 1 (-c) B (j :: J)
    rw [show (fun j => x j - c * v j) = (fun j => 1 * x j + (-c) * v j) from funext fun j => by grind, this]; grind) hz hx
  rw [det_cons, asum_picks_cons] at this
  simp only at this
  rw [Int.mul_comm]; omega
/-- minors with more columns vanish with those of fewer -/
theorem det_fewer {vs : List Vec} {J : List Int} (hz : ∀ l : List Vec, l.length = J.length → (∀ v, v ∈ l → v ∈ vs) → det l J = 0) : ∀ (K : List Int) (l : List Vec), l.length = (K ++ J).length → (∀ v, v ∈ l → v ∈ vs) → det l (K ++ J) = 0
  | [], l, hl, hm => hz l (by simpa using hl) hm
  | k :: K, l, hl, hm => by
    rw [List.cons_append, ← detC_eq _ l _ rfl (by simpa using hl.symm), detC_cons, asum_congr (g := fun _ => 0), asum_zero]
    intro p hp
    have h1 := picks_len hp
    have h2 := (picks_mem hp).2
    have h3 : p.2.length = (K ++ J).length := by simp at hl ⊢; omega
    rw [detC_eq _ p.2 _ rfl h3.symm, det_fewer hz K p.2 h3 (fun v hv => hm v (h2 v hv)), Int.mul_zero]
