/-! MATHEMATICS: determinants of stairs; how large the numbers of a lattice are -/
/-- the column of each row's number is 0 in the rows behind it -/
def tri : HL → Prop
  | [] => True
  | p :: t => (∀ q, q ∈ t → q.2 p.1 = 0) ∧ tri t
def lpr : HL → Int
  | [] => 1
  | p :: t => p.2 p.1 * lpr t
theorem ech_zero : ∀ {hs : HL}, ech hs → ∀ {q : Int × Vec}, q ∈ hs → 0 < q.2 q.1 ∧ ∀ j, j < q.1 → q.2 j = 0
  | [], _, _, h => by simp at h
  | (c, v) :: t, he, q, h => by
    rcases List.mem_cons.mp h with e | h
    · subst e; exact ⟨he.1, he.2.1⟩
    · exact ech_zero he.2.2.2 h
theorem ech_tri : ∀ {hs : HL}, ech hs → tri hs
  | [], _ => trivial
  | (_, _) :: _, h => ⟨fun q hq => (ech_zero h.2.2.2 hq).2 _ (h.2.2.1 q hq), ech_tri h.2.2.2⟩
theorem lpr_pos : ∀ {hs : HL}, (∀ q, q ∈ hs → 0 < q.2 q.1) → 0 < lpr hs ∧ ∀ q, q ∈ hs → q.2 q.1 ≤ lpr hs
  | [], _ => ⟨by decide, fun q h => by simp at h⟩
  | p :: t, h => by
    have ⟨i1, i2⟩ := lpr_pos (fun q hq => h q (List.mem_cons_of_mem _ hq))
    have hp := h p List.mem_cons_self
    refine ⟨Int.mul_pos hp i1, fun q hq => ?_⟩
    show q.2 q.1 ≤ p.2 p.1 * lpr t
    rcases List.mem_cons.mp hq with e | hq
    · subst e
      have : q.2 q.1 * 1 ≤ q.2 q.1 * lpr t := Int.mul_le_mul_of_nonneg_left (by omega) (by omega)
      omega
    · have a := i2 q hq
      have : 1 * lpr t ≤ p.2 p.1 * lpr t := Int.mul_le_mul_of_nonneg_right (by omega) (by omega)
      omega
theorem det_tri : ∀ {hs : HL}, tri hs → det (vv hs) (hs.map Prod.fst) = lpr hs
  | [], _ => rfl
  | p :: t, h => by
    have ih := det_tri h.2
    show det (p.2 :: vv t) (p.1 :: t.map Prod.fst) = p.2 p.1 * lpr t
    rw [det_cons, asum_picks_cons, ih]
    have : asum (fun q => p.2 q.1 * det (vv t) (p.1 :: q.2)) (picks (t.map Prod.fst)) = 0 := by
      rw [asum_congr (g := fun _ => 0) (fun q hq => ?_), asum_zero]
      have hlen := picks_len hq
      rw [List.length_map] at hlen
      rw [det_zero_col (by unfold vv; rw [List.length_map]; omega) (fun v hv => ?_), Int.mul_zero]
      obtain ⟨q', hq', rfl⟩ := List.mem_map.mp hv
      exact h.1 q' hq'
    rw [this, Int.sub_zero]
theorem lat_det {vs : List Vec} {hs : HL} {K : Int} (ht : tri hs) (hp : ∀ q, q ∈ hs → 0 < q.2 q.1) (hsp : spEq (vv hs) vs) (hlen : vs.length = hs.length) (hK : ∀ J : List Int, J.length = vs.length → ((det vs J).natAbs : Int) ≤ K) : det vs (hs.map Prod.fst) ≠ 0 ∧ ∀ q, q ∈ hs → q.2 q.1 ≤ K := by
  obtain ⟨p1, p2⟩ := lpr_pos hp
  have hd := det_tri ht
  have lv : (vv hs).length = hs.length := by unfold vv; rw [List.length_map]
  have d1 : det vs (hs.map Prod.fst) ∣ lpr hs := by rw [← hd]; exact det_mult (fun v hv => (hsp v).mp (sp_mem hv)) (by omega)
  have d2 : lpr hs ∣ det vs (hs.map Prod.fst) := by rw [← hd]; exact det_mult (fun v hv => (hsp v).mpr (sp_mem hv)) (by omega)
  have nz : det vs (hs.map Prod.fst) ≠ 0 := fun e => by rw [e] at d1; have := Int.zero_dvd.mp d1; omega
  have b := hK (hs.map Prod.fst) (by rw [List.length_map]; omega)
  have h1 : lpr hs ≤ ((det vs (hs.map Prod.fst)).natAbs : Int) := Int.le_of_dvd (by omega) (Int.dvd_natAbs.mpr d2)
  exact ⟨nz, fun q hq => Int.le_trans (p2 q hq) (by omega)⟩
theorem lat_size {vs : List Vec} {J : List Int} {K X : Int} {x : Vec} (hJ : J.length = vs.length) (nz : det vs J ≠ 0) (hK : ∀ J : List Int, J.length = vs.length → ((det vs J).natAbs : Int) ≤ K) (hx : sp vs x) (hX : ∀ c, c ∈ J → ((x c).natAbs : Int) ≤ X) (j : Int) : ((x j).natAbs : Int) ≤ J.length * (X * K) := by
  have e := col_rel (B := vs) (J := J) (j := j) (fun v hv => det_same hv) hx
  have b := asum_bound (f := fun q => x q.1 * det vs (j :: q.2)) (c := X * K) (xs := picks J) (fun q hq => mul_size (hX _ (picks_mem hq).1) (hK _ (by have := picks_len hq; rw [List.length_cons]; omega)))
  rw [← e, picks_length] at b
  have : (x j).natAbs ≤ (det vs J * x j).natAbs := by rw [Int.natAbs_mul]; exact Nat.le_mul_of_pos_left _ (by omega)
  omega
/-- one row of a family less what the others give -/
theorem fam_set {u u' : Nat → Vec} {N a : Nat} (ha : a < N) (hs : ∀ m, m < N → m ≠ a → u' m = u m) {Lz : List Vec} (hL : ∀ x, x ∈ Lz → ∃ m, m < N ∧ m ≠ a ∧ x = u m) (hz : sp Lz (fun j => u a j - u' a j)) : spEq (fam u' N 0) (fam u N 0) := by
  refine spEq_of (fun x hx => ?_) (fun x hx => ?_)
  · obtain ⟨m, _, hm, rfl⟩ := fam_mem.mp hx
    by_cases e : m = a
    · subst e
      have z : sp (fam u N 0) (fun j => u m j - u' m j) := sp_sub' (fun y hy => by
        obtain ⟨i, i1, _, rfl⟩ := hL y hy
        exact sp_mem (fam_mem.mpr ⟨i, by omega, by omega, rfl⟩)) hz
      exact sp_ext (sp_sub (sp_mem (fam_mem.mpr ⟨m, by omega, by omega, rfl⟩)) z) (fun j => by omega)
    · rw [hs m (by omega) e]; exact sp_mem (fam_mem.mpr ⟨m, by omega, by omega, rfl⟩)
  · obtain ⟨m, _, hm, rfl⟩ := fam_mem.mp hx
    by_cases e : m = a
    · subst e
      have z : sp (fam u' N 0) (fun j => u m j - u' m j) := sp_sub' (fun y hy => by
        obtain ⟨i, i1, i2, rfl⟩ := hL y hy
        rw [← hs i i1 i2]
        exact sp_mem (fam_mem.mpr ⟨i, by omega, by omega, rfl⟩)) hz
      exact sp_ext (sp_add (sp_mem (v := u' m) (fam_mem.mpr ⟨m, by omega, by omega, rfl⟩)) z) (fun j => by omega)
    · rw [← hs m (by omega) e]; exact sp_mem (fam_mem.mpr ⟨m, by omega, by omega, rfl⟩)
/-- two rows of a family, changed between them -/
theorem fam_pair {u u' : Nat → Vec} {N a b : Nat} (ha : a < N) (hb : b < N) (hs : ∀ m, m < N → m ≠ a → m ≠ b → u' m = u m) (h : spEq [u' a, u' b] [u a, u b]) : spEq (fam u' N 0) (fam u N 0) := by
  have one : ∀ {u u' : Nat → Vec}, (∀ m, m < N → m ≠ a → m ≠ b → u' m = u m) → spEq [u' a, u' b] [u a, u b] → ∀ x, x ∈ fam u' N 0 → sp (fam u N 0) x := by
    intro u u' hs h x hx
    have pr : ∀ y, sp [u a, u b] y → sp (fam u N 0) y := fun y hy => sp_sub' (fun z hz => by
      rcases List.mem_cons.mp hz with e | hz
      · subst e; exact sp_mem (fam_mem.mpr ⟨a, by omega, by omega, rfl⟩)
      · rcases List.mem_cons.mp hz with e | hz
        · subst e; exact sp_mem (fam_mem.mpr ⟨b, by omega, by omega, rfl⟩)
        · simp at hz) hy
    obtain ⟨m, _, hm, rfl⟩ := fam_mem.mp hx
    by_cases e : m = a
    · subst e; exact pr _ ((h _).mp (sp_mem List.mem_cons_self))
    · by_cases e' : m = b
      · subst e'; exact pr _ ((h _).mp (sp_mem (List.mem_cons_of_mem _ List.mem_cons_self)))
      · rw [hs m (by omega) e e']; exact sp_mem (fam_mem.mpr ⟨m, by omega, by omega, rfl⟩)
  exact spEq_of (one hs h) (one (fun m a b c => (hs m a b c).symm) (spEq_symm h))
theorem sp2_low (x y : Vec) (q : Int) : spEq [y, fun j => x j - q * y j] [x, y] := by
  refine spEq_of (fun z hz => ?_) (fun z hz => ?_)
  · rcases List.mem_cons.mp hz with e | hz
    · subst e; exact sp_mem (List.mem_cons_of_mem _ List.mem_cons_self)
    · rcases List.mem_cons.mp hz with e | hz
      · subst e; exact sp_ext (sp_lin 1 (-q) (sp_mem (vs := [x, y]) List.mem_cons_self) (sp_mem (v := y) (List.mem_cons_of_mem _ List.mem_cons_self))) (fun j => by grind)
      · simp at hz
  · rcases List.mem_cons.mp hz with e | hz
    · subst e; exact sp_ext (sp_lin q 1 (sp_mem (vs := [y, fun j => z j - q * y j]) List.mem_cons_self) (sp_mem (List.mem_cons_of_mem _ List.mem_cons_self))) (fun j => by grind)
    · rcases List.mem_cons.mp hz with e | hz
      · subst e; exact sp_mem List.mem_cons_self
      · simp at hz
theorem sp2_swap (x y : Vec) : spEq [x, y] [y, x] := by
  have h : ∀ x y : Vec, ∀ z, z ∈ [x, y] → sp [y, x] z := fun x y z hz => by
    rcases List.mem_cons.mp hz with e | hz
    · subst e; exact sp_mem (List.mem_cons_of_mem _ List.mem_cons_self)
    · rcases List.mem_cons.mp hz with e | hz
      · subst e; exact sp_mem List.mem_cons_self
      · simp at hz
  exact spEq_of (h x y) (h y x)
/-! the stairs' rows -/
def rv (s : mo_S) (v : Nat → Int) (i : Nat) : Vec := PR v (s 6 i).toNat
def prm (s : mo_S) : Prop := (∀ i : Nat, i < 7 → 0 ≤ s 6 i ∧ s 6 i < 7) ∧ ∀ i j : Nat, i < 7 → j < 7 → s 6 i = s 6 j → i = j
/-- stairs of N rows; from row b on it is a Hermite form, before it numbers are not larger than so many digits -/
def EC (s : mo_S) (v : Nat → Int) (W N b T : Nat) (vs : List Vec) : Prop := (∀ i : Nat, i < N → (0 ≤ s 5 i ∧ s 5 i < W) ∧ 0 < rv s v i (s 5 i) ∧ (∀ j : Int, j < s 5 i → rv s v i j = 0) ∧ ∀ j : Int, W ≤ j → rv s v i j = 0) ∧ (∀ i k : Nat, i < k → k < N → s 5 i < s 5 k) ∧ (∀ i : Nat, i < b → ∀ j : Int, ((rv s v i j).natAbs : Int) < 1000000000 ^ T) ∧ (∀ i k : Nat, b ≤ i → i < k → k < N → 0 ≤ rv s v i (s 5 k) ∧ rv s v i (s 5 k) < rv s v k (s 5 k)) ∧ spEq (fam (rv s v) N 0) vs
theorem EC_ech {s : mo_S} {v : Nat → Int} {W N b T : Nat} {vs : List Vec} (h : EC s v W N b T vs) : ech (hl (fun i => s 5 i) (rv s v) N 0) :=
  hl_ech (fun i _ b => (h.1 i (by omega)).2.1) (fun i _ b j hj => (h.1 i (by omega)).2.2.1 j hj) (fun i m _ a b => h.2.1 i m a (by omega))
theorem EC_red {s : mo_S} {v : Nat → Int} {W N T : Nat} {vs : List Vec} (h : EC s v W N 0 T vs) : red (hl (fun i => s 5 i) (rv s v) N 0) :=
  hl_red (fun i m _ a b => h.2.2.2.1 i m (by omega) a (by omega))
theorem hl_len (c : Nat → Int) (v : Nat → Vec) : ∀ n k, (hl c v n k).length = n
  | 0, _ => rfl
  | n + 1, k => by rw [hl, List.length_cons, hl_len]
/-- minors of these rows are not large -/
def mK (vs : List Vec) : Prop := ∀ J : List Int, J.length = vs.length → ((det vs J).natAbs : Int) ≤ MBND
theorem EC_KR {s : mo_S} {v : Nat → Int} {W N b T : Nat} {vs : List Vec} (h : EC s v W N b T vs) (hlen : vs.length = N) (hN : N ≤ 6) (hK : mK vs) : KR s v W b N FBND ∧ ∀ i : Nat, i < N → rv s v i (s 5 i) ≤ MBND := by
  have he := EC_ech h
  have lh : (hl (fun i => s 5 i) (rv s v) N 0).length = N := hl_len _ _ _ _
  have hsp : spEq (vv (hl (fun i => s 5 i) (rv s v) N 0)) vs := by rw [hl_vv]; exact h.2.2.2.2
  obtain ⟨nz, hL⟩ := lat_det (K := MBND) (ech_tri he) (fun q hq => (ech_zero he hq).1) hsp (by omega) hK
  have hLd : ∀ i : Nat, i < N → rv s v i (s 5 i) ≤ MBND := fun i hi => hL _ (hl_mem.mpr ⟨i, by omega, by omega, rfl⟩)
  refine ⟨fun i hb hi => ⟨(h.1 i hi).1, (h.1 i hi).2.1, (h.1 i hi).2.2.1, (h.1 i hi).2.2.2, fun j => ?_, fun k a b => h.2.1 i k a b⟩, hLd⟩
  have hx : sp vs (rv s v i) := (h.2.2.2.2 _).mp (sp_mem (fam_mem.mpr ⟨i, by omega, by omega, rfl⟩))
  have hb := lat_size (X := MBND) (by rw [List.length_map]; omega) nz hK hx (fun c hc => by
    obtain ⟨p, hp, rfl⟩ := List.mem_map.mp hc
    obtain ⟨m, _, hm, rfl⟩ := hl_mem.mp hp
    show ((rv s v i (s 5 m)).natAbs : Int) ≤ MBND
    have l0 := (h.1 m (by omega)).2.1
    have l1 := hLd m (by omega)
    rcases Nat.lt_trichotomy m i with e | e | e
    · rw [(h.1 i hi).2.2.1 _ (h.2.1 m i e hi)]; decide
    · subst e; omega
    · have := h.2.2.2.1 i m hb e (by omega); omega) j
  rw [List.length_map, lh] at hb
  have : (N : Int) * (MBND * MBND) ≤ 6 * (MBND * MBND) := Int.mul_le_mul_of_nonneg_right (by omega) (by decide)
  unfold FBND
  show ((rv s v i j).natAbs : Int) ≤ 6 * (MBND * MBND)
  omega
theorem FB_25 : FBND < 1000000000 ^ 25 ∧ 2 * MBND < 1000000000 ^ 13 := by decide
