/-! MATHEMATICS: lattices of rows, the one Hermite form -/
/-- x is a whole combination of these rows -/
def sp : List Vec → Vec → Prop
  | [], x => ∀ j, x j = 0
  | v :: vs, x => ∃ c : Int, sp vs (fun j => x j - c * v j)
theorem sp_lin (a b : Int) : ∀ {vs : List Vec} {x y : Vec}, sp vs x → sp vs y → sp vs (fun j => a * x j + b * y j)
  | [], x, y, hx, hy => fun j => by show a * x j + b * y j = 0; rw [hx j, hy j]; simp
  | v :: vs, x, y, ⟨c, hx⟩, ⟨d, hy⟩ => by
    refine ⟨a * c + b * d, ?_⟩
    have := sp_lin a b hx hy
    refine cast (congrArg (sp vs) (funext fun j => ?_)) this
    grind
theorem sp_ext {vs : List Vec} {x y : Vec} (h : sp vs x) (e : ∀ j, x j = y j) : sp vs y := by
  rw [← show x = y from funext e]; exact h
theorem sp_zero : ∀ {vs : List Vec}, sp vs (fun _ => 0)
  | [] => fun _ => rfl
  | v :: vs => ⟨0, sp_ext sp_zero (fun j => by simp)⟩
theorem sp_add {vs : List Vec} {x y : Vec} (hx : sp vs x) (hy : sp vs y) : sp vs (fun j => x j + y j) := sp_ext (sp_lin 1 1 hx hy) (fun j => by simp)
theorem sp_sub {vs : List Vec} {x y : Vec} (hx : sp vs x) (hy : sp vs y) : sp vs (fun j => x j - y j) := sp_ext (sp_lin 1 (-1) hx hy) (fun j => by grind)
theorem sp_mul (a : Int) {vs : List Vec} {x : Vec} (hx : sp vs x) : sp vs (fun j => a * x j) := sp_ext (sp_lin a 0 hx hx) (fun j => by grind)
theorem sp_cons {v : Vec} {vs : List Vec} {x : Vec} (h : sp vs x) : sp (v :: vs) x := ⟨0, sp_ext h (fun j => by simp)⟩
theorem sp_mem : ∀ {vs : List Vec} {v : Vec}, v ∈ vs → sp vs v
  | u :: vs, v, h => by
    rcases List.mem_cons.mp h with e | e
    · subst e; exact ⟨1, sp_ext sp_zero (fun j => by grind)⟩
    · exact sp_cons (sp_mem e)
theorem sp_sub' : ∀ {vs ws : List Vec} {x : Vec}, (∀ v, v ∈ vs → sp ws v) → sp vs x → sp ws x
  | [], ws, x, _, hx => sp_ext sp_zero (fun j => (hx j).symm)
  | v :: vs, ws, x, h, ⟨c, hx⟩ => by
    have h1 := sp_sub' (fun u hu => h u (List.mem_cons_of_mem _ hu)) hx
    have h2 := h v (List.mem_cons_self ..)
    exact sp_ext (sp_lin 1 c h1 h2) (fun j => by grind)
/-- the same lattice -/
def spEq (vs ws : List Vec) : Prop := ∀ x, sp vs x ↔ sp ws x
theorem spEq_of {vs ws : List Vec} (h1 : ∀ v, v ∈ vs → sp ws v) (h2 : ∀ v, v ∈ ws → sp vs v) : spEq vs ws := fun _ => ⟨sp_sub' h1, sp_sub' h2⟩
/-- a list of sums of rows lies in the lattice -/
theorem sp_asum {α : Type} {vs : List Vec} (u : α → Vec) (c : α → Int) : ∀ {ps : List α}, (∀ p, p ∈ ps → sp vs (u p)) → sp vs (fun j => asum (fun p => u p j * c p) ps)
  | [], _ => sp_ext sp_zero (fun j => rfl)
  | p :: ps, h => by
    have h1 := sp_asum u c (fun q hq => h q (List.mem_cons_of_mem _ hq))
    exact sp_ext (sp_lin (c p) (-1) (h p (List.mem_cons_self ..)) h1) (fun j => by rw [asum]; grind)
/-- something linear that is 0 on the rows is 0 on the lattice -/
theorem sp_rel {f : Vec → Int} (hz : f (fun _ => 0) = 0) (hf : ∀ (x v : Vec) (c : Int), f (fun j => x j - c * v j) = f x - c * f v) : ∀ {vs : List Vec} {x : Vec}, (∀ v, v ∈ vs → f v = 0) → sp vs x → f x = 0
  | [], x, _, hx => by rw [show x = (fun _ => 0) from funext hx]; exact hz
  | v :: vs, x, h, ⟨c, hx⟩ => by
    have h1 := sp_rel hz hf (fun u hu => h u (List.mem_cons_of_mem _ hu)) hx
    rw [hf, h v (List.mem_cons_self ..)] at h1
    omega
/-- a map of vectors that keeps sums -/
theorem sp_map {F : Vec → Vec} (hz : F (fun _ => 0) = fun _ => 0) (hf : ∀ (x v : Vec) (c : Int), F (fun j => x j - c * v j) = fun j => F x j - c * F v j) : ∀ {vs : List Vec} {x : Vec}, sp vs x → sp (vs.map F) (F x)
  | [], x, hx => by rw [show x = (fun _ => 0) from funext hx, hz]; exact fun _ => rfl
  | v :: vs, x, ⟨c, hx⟩ => by
    have := sp_map hz hf hx
    rw [hf] at this
    exact ⟨c, this⟩
theorem sp_unmap {F : Vec → Vec} (hz : F (fun _ => 0) = fun _ => 0) (hf : ∀ (x v : Vec) (c : Int), F (fun j => x j - c * v j) = fun j => F x j - c * F v j) : ∀ {vs : List Vec} {y : Vec}, sp (vs.map F) y → ∃ x, sp vs x ∧ F x = y
  | [], y, hy => ⟨fun _ => 0, fun _ => rfl, by rw [hz]; exact funext fun j => (hy j).symm⟩
  | v :: vs, y, ⟨c, hy⟩ => by
    obtain ⟨x, hx, e⟩ := sp_unmap hz hf hy
    refine ⟨fun j => x j + c * v j, ⟨c, sp_ext hx (fun j => by grind)⟩, ?_⟩
    have := hf (fun j => x j + c * v j) v c
    rw [show (fun j => x j + c * v j - c * v j) = x from funext fun j => by grind, e] at this
    funext j
    have := congrFun this j
    grind
/-! Hermite forms: a list of leads and rows, the top row first -/
abbrev HL : Type := List (Int × Vec)
def vv (hs : HL) : List Vec := hs.map Prod.snd
/-- stairs: each row's lead is above 0 and behind the leads above it -/
def ech : HL → Prop
  | [] => True
  | (c, v) :: t => 0 < v c ∧ (∀ j, j < c → v j = 0) ∧ (∀ p, p ∈ t → c < p.1) ∧ ech t
/-- above a lead stand numbers from 0 to below it -/
def red : HL → Prop
  | [] => True
  | (_, v) :: t => (∀ p, p ∈ t → 0 ≤ v p.1 ∧ v p.1 < p.2 p.1) ∧ red t
theorem ech_before : ∀ {hs : HL} {k : Int}, ech hs → (∀ p, p ∈ hs → k < p.1) → ∀ {x : Vec}, sp (vv hs) x → ∀ j, j ≤ k → x j = 0
  | [], k, _, _, x, hx, j, _ => hx j
  | (c, v) :: t, k, he, hk, x, ⟨q, hx⟩, j, hj => by
    have h1 := ech_before he.2.2.2 (fun p hp => hk p (List.mem_cons_of_mem _ hp)) hx j hj
    have h2 := he.2.1 j (by have := hk (c, v) (List.mem_cons_self ..); simp only at this; omega)
    simp only [h2] at h1; omega
theorem ech_step {c : Int} {v : Vec} {t : HL} (he : ech ((c, v) :: t)) {x : Vec} (hx : sp (vv ((c, v) :: t)) x) : ∃ q, x c = q * v c ∧ (∀ j, j < c → x j = 0) ∧ sp (vv t) (fun j => x j - q * v j) := by
  obtain ⟨q, hx⟩ := hx
  have hb := ech_before he.2.2.2 he.2.2.1 hx
  refine ⟨q, ?_, fun j hj => ?_, hx⟩
  · have := hb c (by omega); simp only at this; omega
  · have h1 := hb j (by omega)
    simp only [he.2.1 j hj] at h1; omega
/-- what has 0 up to the lead comes of the rows below -/
theorem ech_tail {c : Int} {v : Vec} {t : HL} (he : ech ((c, v) :: t)) {x : Vec} (hx : sp (vv ((c, v) :: t)) x) (h0 : x c = 0) : sp (vv t) x := by
  obtain ⟨q, e, _, ht⟩ := ech_step he hx
  have hq : q = 0 := by
    rw [h0] at e
    rcases Int.mul_eq_zero.mp e.symm with h | h
    · exact h
    · have := he.1; omega
  subst hq
  exact sp_ext ht (fun j => by simp)
/-- what is small at every lead is 0 -/
theorem ech_small : ∀ {hs : HL}, ech hs → ∀ {x : Vec}, sp (vv hs) x → (∀ p, p ∈ hs → ((x p.1).natAbs : Int) < p.2 p.1) → ∀ j, x j = 0
  | [], _, x, hx, _ => hx
  | (c, v) :: t, he, x, hx, hs => by
    obtain ⟨q, e, _, ht⟩ := ech_step he hx
    have h1 := hs (c, v) (List.mem_cons_self ..)
    simp only at h1
    have hq : q = 0 := by
      refine Classical.byContradiction (fun hq => ?_)
      rw [e, Int.natAbs_mul] at h1
      have hv := he.1
      have : (v c).natAbs ≤ q.natAbs * (v c).natAbs := Nat.le_mul_of_pos_left _ (by omega)
      omega
    subst hq
    exact ech_small he.2.2.2 (sp_ext ht (fun j => by simp)) (fun p hp => hs p (List.mem_cons_of_mem _ hp))
theorem form_unique : ∀ {hs hs' : HL}, ech hs → red hs → ech hs' → red hs' → spEq (vv hs) (vv hs') → hs = hs'
  | [], [], _, _, _, _, _ => rfl
  | [], (c, v) :: t, _, _, he, _, h => by
    have := (h v).mpr (sp_mem (List.mem_cons_self ..)) c
    have := he.1; omega
  | (c, v) :: t, [], he, _, _, _, h => by
    have := (h v).mp (sp_mem (List.mem_cons_self ..)) c
    have := he.1; omega
  | (c, v) :: t, (d, u) :: r, he, hr, he', hr', h => by
    obtain ⟨q, e1, z1, s1⟩ := ech_step he' ((h v).mp (sp_mem (List.mem_cons_self ..)))
    obtain ⟨p, e2, z2, s2⟩ := ech_step he ((h u).mpr (sp_mem (List.mem_cons_self ..)))
    have hv := he.1
    have hu := he'.1
    have hcd : c = d := by
      have h1 : ¬ c < d := fun hlt => by have := z1 c hlt; omega
      have h2 : ¬ d < c := fun hlt => by have := z2 d hlt; omega
      omega
    subst hcd
    have hq : q = 1 := by
      have h1 : v c = q * (p * v c) := by rw [← e2]; exact e1
      have h2 : (q * p) * v c = 1 * v c := by rw [Int.mul_assoc, ← h1]; omega
      have h3 := Int.eq_of_mul_eq_mul_right (by omega) h2
      have hq0 : 0 < q := by
        refine Classical.byContradiction (fun hn => ?_)
        have : q * u c ≤ 0 := Int.mul_nonpos_of_nonpos_of_nonneg (by omega) (by omega)
        omega
      exact Int.eq_one_of_mul_eq_one_right (by omega) h3
    have ht : t = r := by
      refine form_unique he.2.2.2 hr.2 he'.2.2.2 hr'.2 (fun x => ⟨fun hx => ?_, fun hx => ?_⟩)
      · refine ech_tail he' ((h x).mp (sp_cons hx)) (ech_before he.2.2.2 he.2.2.1 hx c (by omega))
      · refine ech_tail he ((h x).mpr (sp_cons hx)) (ech_before he'.2.2.2 he'.2.2.1 hx c (by omega))
    subst ht
    rw [hq] at s1
    have := ech_small he.2.2.2 s1 (fun p hp => by
      have a := hr.1 p hp
      have b := hr'.1 p hp
      show ((v p.1 - 1 * u p.1).natAbs : Int) < p.2 p.1
      omega)
    have : v = u := funext fun j => by have := this j; omega
    rw [this]
