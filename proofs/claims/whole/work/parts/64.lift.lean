/-! MATHEMATICS: the form out of the columns of leads -/
/-- rows k .. k + n - 1 -/
def fam (v : Nat → Vec) : Nat → Nat → List Vec
  | 0, _ => []
  | n + 1, k => v k :: fam v n (k + 1)
theorem fam_mem {v : Nat → Vec} : ∀ {n k : Nat} {u : Vec}, u ∈ fam v n k ↔ ∃ i, k ≤ i ∧ i < k + n ∧ u = v i
  | 0, k, u => by simp [fam]; omega
  | n + 1, k, u => by
    rw [fam, List.mem_cons, fam_mem]
    constructor
    · rintro (e | ⟨i, h1, h2, e⟩)
      · exact ⟨k, by omega, by omega, e⟩
      · exact ⟨i, by omega, by omega, e⟩
    · rintro ⟨i, h1, h2, e⟩
      by_cases h : i = k
      · subst h; exact Or.inl e
      · exact Or.inr ⟨i, by omega, by omega, e⟩
theorem fam_congr {u v : Nat → Vec} : ∀ {n k : Nat}, (∀ i, k ≤ i → i < k + n → u i = v i) → fam u n k = fam v n k
  | 0, k, _ => rfl
  | n + 1, k, h => by rw [fam, fam, h k (by omega) (by omega), fam_congr (fun i h1 h2 => h i (by omega) (by omega))]
theorem fam_len (v : Nat → Vec) : ∀ n k, (fam v n k).length = n
  | 0, _ => rfl
  | n + 1, k => by rw [fam, List.length_cons, fam_len]
theorem fam_map (F : Vec → Vec) (v : Nat → Vec) : ∀ n k, (fam v n k).map F = fam (fun i => F (v i)) n k
  | 0, _ => rfl
  | n + 1, k => by rw [fam, fam, List.map_cons, fam_map F v n (k + 1)]
def hl (c : Nat → Int) (v : Nat → Vec) : Nat → Nat → HL
  | 0, _ => []
  | n + 1, k => (c k, v k) :: hl c v n (k + 1)
theorem hl_mem {c : Nat → Int} {v : Nat → Vec} : ∀ {n k : Nat} {p : Int × Vec}, p ∈ hl c v n k ↔ ∃ i, k ≤ i ∧ i < k + n ∧ p = (c i, v i)
  | 0, k, u => by simp [hl]; omega
  | n + 1, k, u => by
    rw [hl, List.mem_cons, hl_mem]
    constructor
    · rintro (e | ⟨i, h1, h2, e⟩)
      · exact ⟨k, by omega, by omega, e⟩
      · exact ⟨i, by omega, by omega, e⟩
    · rintro ⟨i, h1, h2, e⟩
      by_cases h : i = k
      · subst h; exact Or.inl e
      · exact Or.inr ⟨i, by omega, by omega, e⟩
theorem hl_vv (c : Nat → Int) (v : Nat → Vec) : ∀ n k, vv (hl c v n k) = fam v n k
  | 0, _ => rfl
  | n + 1, k => by
    have := hl_vv c v n (k + 1)
    unfold vv at this ⊢
    rw [hl, fam, List.map_cons, this]
theorem hl_ech {c : Nat → Int} {v : Nat → Vec} : ∀ {n k : Nat}, (∀ i, k ≤ i → i < k + n → 0 < v i (c i)) → (∀ i, k ≤ i → i < k + n → ∀ j, j < c i → v i j = 0) → (∀ i m, k ≤ i → i < m → m < k + n → c i < c m) → ech (hl c v n k)
  | 0, k, _, _, _ => trivial
  | n + 1, k, h1, h2, h3 => by
    refine ⟨h1 k (by omega) (by omega), h2 k (by omega) (by omega), fun p hp => ?_, hl_ech (fun i a b => h1 i (by omega) (by omega)) (fun i a b => h2 i (by omega) (by omega)) (fun i m a b d => h3 i m (by omega) b (by omega))⟩
    obtain ⟨i, a, b, rfl⟩ := hl_mem.mp hp
    exact h3 k i (by omega) (by omega) (by omega)
theorem hl_red {c : Nat → Int} {v : Nat → Vec} : ∀ {n k : Nat}, (∀ i m, k ≤ i → i < m → m < k + n → 0 ≤ v i (c m) ∧ v i (c m) < v m (c m)) → red (hl c v n k)
  | 0, k, _ => trivial
  | n + 1, k, h => by
    refine ⟨fun p hp => ?_, hl_red (fun i m a b d => h i m (by omega) b (by omega))⟩
    obtain ⟨i, a, b, rfl⟩ := hl_mem.mp hp
    exact h k i (by omega) (by omega) (by omega)
theorem hl_inj {c d : Nat → Int} {v u : Nat → Vec} : ∀ {n m k : Nat}, hl c v n k = hl d u m k → n = m ∧ ∀ i, k ≤ i → i < k + n → c i = d i ∧ v i = u i
  | 0, 0, k, _ => ⟨rfl, fun i a b => by omega⟩
  | 0, m + 1, k, h => by simp [hl] at h
  | n + 1, 0, k, h => by simp [hl] at h
  | n + 1, m + 1, k, h => by
    rw [hl, hl] at h
    injection h with h1 h2
    injection h1 with h3 h4
    have := hl_inj h2
    refine ⟨by omega, fun i a b => ?_⟩
    by_cases e : i = k
    · subst e; exact ⟨h3, h4⟩
    · exact this.2 i (by omega) (by omega)
theorem plist_mem {f : Int → Int} : ∀ {n : Nat} {j : Int}, j ∈ plist f n ↔ ∃ k : Nat, k < n ∧ j = f k
  | 0, j => by simp [plist]
  | n + 1, j => by
    rw [plist, List.mem_cons, plist_mem]
    constructor
    · rintro (e | ⟨k, h, e⟩)
      · exact ⟨n, by omega, e⟩
      · exact ⟨k, by omega, e⟩
    · rintro ⟨k, h, e⟩
      by_cases hk : k = n
      · subst hk; exact Or.inl e
      · exact Or.inr ⟨k, by omega, e⟩
theorem plist_split (f : Int → Int) {k : Nat} : ∀ {n : Nat}, k ≤ n → ∃ K, plist f n = K ++ plist f k
  | 0, h => ⟨[], by rw [show k = 0 by omega]; rfl⟩
  | n + 1, h => by
    by_cases e : k = n + 1
    · subst e; exact ⟨[], rfl⟩
    · obtain ⟨K, hK⟩ := plist_split f (k := k) (n := n) (by omega)
      exact ⟨f n :: K, by rw [plist, hK]; rfl⟩
/-- the columns of the leads: some minor isn't 0 in them, all are with a column that is none of them (and those before it) -/
def isLeads (vs : List Vec) (C : Int) (lead : Int → Int) (r : Nat) : Prop :=
  (∀ i k : Nat, i < k → k < r → lead i < lead k) ∧ (∀ k : Nat, k < r → 0 ≤ lead k ∧ lead k < C) ∧ (∃ B : List Vec, B.length = r ∧ (∀ v, v ∈ B → v ∈ vs) ∧ det B (plist lead r) ≠ 0) ∧
  ∀ j, 0 ≤ j → j < C → ∀ f : Nat, f ≤ r → (∀ k : Nat, k < f → lead k < j) → (f < r → j < lead f) → ∀ l : List Vec, l.length = f + 1 → (∀ v, v ∈ l → v ∈ vs) → det l (j :: plist lead f) = 0
theorem lead_place {lead : Int → Int} {r : Nat} {j : Int} (hn : ∀ k : Nat, k < r → lead k ≠ j) : ∃ f : Nat, f ≤ r ∧ (∀ k : Nat, k < f → lead k < j) ∧ (f < r → j < lead f) := by
  induction r with
  | zero => exact ⟨0, by omega, fun k hk => by omega, fun h => by omega⟩
  | succ r ih =>
    obtain ⟨f, h1, h2, h3⟩ := ih (fun k hk => hn k (by omega))
    by_cases e : f = r
    · subst e
      have := hn f (by omega)
      by_cases hj : j < lead f
      · exact ⟨f, by omega, h2, fun _ => hj⟩
      · refine ⟨f + 1, by omega, fun k hk => ?_, fun h => by omega⟩
        by_cases hk' : k = f
        · subst hk'; omega
        · exact h2 k (by omega)
    · exact ⟨f, by omega, h2, fun _ => h3 (by omega)⟩
theorem lead_more {vs : List Vec} {C : Int} {lead : Int → Int} {r : Nat} (h : isLeads vs C lead r) {j : Int} (j0 : 0 ≤ j) (j1 : j < C) (hn : ∀ k : Nat, k < r → lead k ≠ j) {l : List Vec} (hl : l.length = r + 1) (hm : ∀ v, v ∈ l → v ∈ vs) : det l (j :: plist lead r) = 0 := by
  obtain ⟨f, f1, f2, f3⟩ := lead_place hn
  obtain ⟨K, hK⟩ := plist_split lead f1
  have hlen := plist_len lead r
  have h1 := det_fewer (vs := vs) (J := j :: plist lead f) (fun l hl hm => h.2.2.2 j j0 j1 f f1 f2 f3 l (by rw [hl, List.length_cons, plist_len]) hm) K l (by rw [hl, ← hlen, hK]; simp; omega) hm
  have hp : (j :: plist lead r).Perm (K ++ j :: plist lead f) := by rw [hK]; exact List.perm_middle.symm
  obtain ⟨e, _, he⟩ := detC_perm hp
  rw [← detC_eq _ l _ rfl (by rw [hl, List.length_cons, plist_len]), he, detC_eq _ l _ rfl (by rw [hl, ← hlen, hK]; simp; omega), h1, Int.mul_zero]
/-- what is 0 at the first leads is 0 before the next -/
theorem lead_zero {vs : List Vec} {C : Int} {lead : Int → Int} {r : Nat} (h : isLeads vs C lead r) (hz : ∀ v, v ∈ vs → ∀ j, ¬ (0 ≤ j ∧ j < C) → v j = 0) {x : Vec} (hx : sp vs x) {i : Nat} (hi : i ≤ r) (h0 : ∀ k : Nat, k < i → x (lead k) = 0) {j : Int} (hj : i < r → j < lead i) : x j = 0 := by
  by_cases hr : 0 ≤ j ∧ j < C
  · by_cases hn : ∀ k : Nat, k < r → lead k ≠ j
    · obtain ⟨f, f1, f2, f3⟩ := lead_place hn
      have hfi : f ≤ i := by
        refine Classical.byContradiction (fun hlt => ?_)
        have a := f2 i (by omega)
        have b := hj (by omega)
        omega
      obtain ⟨B, hB, hBm, hd⟩ : ∃ B : List Vec, B.length = f ∧ (∀ v, v ∈ B → v ∈ vs) ∧ det B (plist lead f) ≠ 0 := by
        refine Classical.byContradiction (fun hno => ?_)
        obtain ⟨B, hB, hBm, hd⟩ := h.2.2.1
        obtain ⟨K, hK⟩ := plist_split lead f1
        refine hd ?_
        rw [hK]
        refine det_fewer (vs := vs) (fun l hl hm => ?_) K B (by rw [← hK, plist_len, hB]) hBm
        exact Classical.byContradiction (fun hne => hno ⟨l, by rw [hl, plist_len], hm, hne⟩)
      have := col_rel (vs := vs) (B := B) (J := plist lead f) (j := j) (fun v hv => h.2.2.2 j hr.1 hr.2 f f1 f2 f3 (v :: B) (by rw [List.length_cons, hB]) (fun u hu => by
        rcases List.mem_cons.mp hu with e | e
        · subst e; exact hv
        · exact hBm u e)) hx
      rw [asum_congr (g := fun _ => 0) (fun q hq => by
        obtain ⟨k, hk, e⟩ := plist_mem.mp (picks_mem hq).1
        rw [e, h0 k (by omega), Int.zero_mul]), asum_zero] at this
      rcases Int.mul_eq_zero.mp this with e | e
      · exact absurd e hd
      · exact e
    · have hk : ∃ k : Nat, k < r ∧ lead k = j := by
        refine Classical.byContradiction (fun hno => hn (fun k hk e => hno ⟨k, hk, e⟩))
      obtain ⟨k, hk, rfl⟩ := hk
      refine h0 k ?_
      refine Classical.byContradiction (fun hlt => ?_)
      have a := hj (by omega)
      by_cases e : k = i
      · subst e; omega
      · have := h.1 i k (by omega) hk; omega
  · have := sp_rel (f := fun x => x j) (by simp) (fun x v c => by simp) (fun v hv => hz v hv j hr) hx
    exact this
def prj (lead : Int → Int) (r : Nat) (x : Vec) : Vec := fun e => if 0 ≤ e ∧ e < r then x (lead e) else 0
theorem prj_zero (lead : Int → Int) (r : Nat) : prj lead r (fun _ => 0) = fun _ => 0 := by funext e; simp [prj]
theorem prj_lin (lead : Int → Int) (r : Nat) (x v : Vec) (c : Int) : prj lead r (fun j => x j - c * v j) = fun j => prj lead r x j - c * prj lead r v j := by
  funext e; unfold prj; by_cases h : 0 ≤ e ∧ e < r
  · simp only [if_pos h]
  · simp only [if_neg h]; simp
theorem prj_at (lead : Int → Int) {r : Nat} (x : Vec) {e : Int} (h0 : 0 ≤ e) (h1 : e < r) : prj lead r x e = x (lead e) := by unfold prj; rw [if_pos ⟨h0, h1⟩]
theorem form_lift {vs : List Vec} {C : Int} {lead : Int → Int} {r : Nat} (h : isLeads vs C lead r) (hz : ∀ v, v ∈ vs → ∀ j, ¬ (0 ≤ j ∧ j < C) → v j = 0) {T : Nat → Vec} (hT : spEq (fam T r 0) (vs.map (prj lead r)))
    (h1 : ∀ i : Nat, i < r → 0 < T i i) (h0 : ∀ i e : Nat, e < i → i < r → T i e = 0) (hr : ∀ i k : Nat, i < k → k < r → 0 ≤ T i k ∧ T i k < T k k) :
    ∃ X : Nat → Vec, (∀ i, i < r → sp vs (X i)) ∧ (∀ i e : Nat, i < r → e < r → X i (lead e) = T i e) ∧ ech (hl (fun k => lead k) X r 0) ∧ red (hl (fun k => lead k) X r 0) ∧ spEq (fam X r 0) vs := by
  have hex : ∀ i : Nat, ∃ x, i < r → sp vs x ∧ prj lead r x = T i := by
    intro i
    by_cases hi : i < r
    · obtain ⟨x, hx⟩ := sp_unmap (prj_zero lead r) (prj_lin lead r) ((hT (T i)).mp (sp_mem (fam_mem.mpr ⟨i, by omega, by omega, rfl⟩)))
      exact ⟨x, fun _ => hx⟩
    · exact ⟨fun _ => 0, fun h => absurd h hi⟩
  obtain ⟨X, hX⟩ : ∃ X : Nat → Vec, ∀ i, i < r → sp vs (X i) ∧ prj lead r (X i) = T i := ⟨fun i => Classical.choose (hex i), fun i => Classical.choose_spec (hex i)⟩
  refine ⟨X, ?_⟩
  have hXl : ∀ i e : Nat, i < r → e < r → X i (lead e) = T i e := by
    intro i e hi he
    rw [← (hX i hi).2, prj_at lead _ (by omega) (by omega)]
  refine ⟨fun i hi => (hX i hi).1, hXl, ?_, ?_, ?_⟩
  · refine hl_ech (fun i _ hi => ?_) (fun i _ hi j hj => ?_) (fun i m _ hi hm => h.1 i m hi (by omega))
    · rw [hXl i i (by omega) (by omega)]; exact h1 i (by omega)
    · exact lead_zero h hz (hX i (by omega)).1 (show i ≤ r by omega) (fun k hk => by rw [hXl i k (by omega) (by omega)]; exact h0 i k hk (by omega)) (fun _ => hj)
  · refine hl_red (fun i m _ hi hm => ?_)
    rw [hXl i m (by omega) (by omega), hXl m m (by omega) (by omega)]
    exact hr i m hi (by omega)
  · refine spEq_of (fun v hv => ?_) (fun v hv => ?_)
    · obtain ⟨i, _, hi, rfl⟩ := fam_mem.mp hv
      exact (hX i (by omega)).1
    · have hp := (hT (prj lead r v)).mpr (sp_mem (List.mem_map_of_mem hv))
      rw [← fam_congr (u := fun i => prj lead r (X i)) (fun i _ hi => (hX i (by omega)).2), ← fam_map] at hp
      obtain ⟨x, hx, e⟩ := sp_unmap (prj_zero lead r) (prj_lin lead r) hp
      have hxv : sp vs x := sp_sub' (fun u hu => by
        obtain ⟨i, _, hi, rfl⟩ := fam_mem.mp hu
        exact (hX i (by omega)).1) hx
      have := sp_sub (sp_mem hv) hxv
      refine sp_ext hx (fun j => ?_)
      have hj := lead_zero h hz this (i := r) (by omega) (fun k hk => by
        have := congrFun e k
        rw [prj_at lead _ (by omega) (by omega), prj_at lead _ (by omega) (by omega)] at this
        omega) (j := j) (fun h => by omega)
      omega
