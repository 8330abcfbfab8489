/-! DETERMINANTS over lists of rows (functions) and of columns: along the first row; along the first column -/
def picks {α : Type} : List α → List (α × List α)
  | [] => []
  | x :: xs => (x, xs) :: (picks xs).map (fun p => (p.1, x :: p.2))
def asum {α : Type} (f : α → Int) : List α → Int
  | [] => 0
  | x :: xs => f x - asum f xs
abbrev Vec : Type := Int → Int
def det : List Vec → List Int → Int
  | [], _ => 1
  | v :: vs, J => asum (fun p => v p.1 * det vs p.2) (picks J)
def detC : List Vec → List Int → Int
  | _, [] => 1
  | vs, j :: J => asum (fun p => p.1 j * detC p.2 J) (picks vs)
theorem asum_map {α β : Type} (f : β → Int) (g : α → β) : ∀ xs : List α, asum f (xs.map g) = asum (fun x => f (g x)) xs
  | [] => rfl
  | x :: xs => by rw [List.map_cons, asum, asum, asum_map f g xs]
theorem asum_congr {α : Type} {f g : α → Int} : ∀ {xs : List α}, (∀ x, x ∈ xs → f x = g x) → asum f xs = asum g xs
  | [], _ => rfl
  | x :: xs, h => by rw [asum, asum, h x (List.mem_cons_self ..), asum_congr (fun y hy => h y (List.mem_cons_of_mem _ hy))]
theorem asum_add {α : Type} (f g : α → Int) : ∀ xs : List α, asum (fun x => f x + g x) xs = asum f xs + asum g xs
  | [] => rfl
  | x :: xs => by rw [asum, asum, asum, asum_add f g xs]; omega
theorem asum_sub {α : Type} (f g : α → Int) : ∀ xs : List α, asum (fun x => f x - g x) xs = asum f xs - asum g xs
  | [] => rfl
  | x :: xs => by rw [asum, asum, asum, asum_sub f g xs]; omega
theorem asum_mul {α : Type} (c : Int) (f : α → Int) : ∀ xs : List α, asum (fun x => c * f x) xs = c * asum f xs
  | [] => by simp [asum]
  | x :: xs => by rw [asum, asum, asum_mul c f xs, Int.mul_sub]
theorem asum_zero {α : Type} : ∀ xs : List α, asum (fun _ => 0) xs = 0
  | [] => rfl
  | x :: xs => by rw [asum, asum_zero xs]; rfl
theorem asum_swap {α β : Type} (F : α → β → Int) : ∀ (xs : List α) (ys : List β), asum (fun x => asum (fun y => F x y) ys) xs = asum (fun y => asum (fun x => F x y) xs) ys
  | [], ys => by
    show 0 = asum (fun y => asum (fun x => F x y) []) ys
    rw [show (fun y => asum (fun x => F x y) ([] : List α)) = (fun _ : β => (0 : Int)) from rfl, asum_zero]
  | x :: xs, ys => by
    rw [asum, asum_swap F xs ys]
    rw [← asum_sub]
    rfl
theorem picks_len {α : Type} : ∀ {xs : List α} {p : α × List α}, p ∈ picks xs → p.2.length + 1 = xs.length
  | [], p, h => by simp [picks] at h
  | x :: xs, p, h => by
    unfold picks at h
    rcases List.mem_cons.mp h with e | e
    · subst e; rfl
    · obtain ⟨q, hq, rfl⟩ := List.mem_map.mp e
      have := picks_len hq
      simp; omega
theorem picks_mem {α : Type} : ∀ {xs : List α} {p : α × List α}, p ∈ picks xs → p.1 ∈ xs ∧ ∀ y, y ∈ p.2 → y ∈ xs
  | [], p, h => by simp [picks] at h
  | x :: xs, p, h => by
    unfold picks at h
    rcases List.mem_cons.mp h with e | e
    · subst e; exact ⟨List.mem_cons_self .., fun y hy => List.mem_cons_of_mem _ hy⟩
    · obtain ⟨q, hq, rfl⟩ := List.mem_map.mp e
      have := picks_mem hq
      refine ⟨List.mem_cons_of_mem _ this.1, fun y hy => ?_⟩
      rcases List.mem_cons.mp hy with e' | e'
      · subst e'; exact List.mem_cons_self ..
      · exact List.mem_cons_of_mem _ (this.2 y e')
theorem det_cons (v : Vec) (vs : List Vec) (J : List Int) : det (v :: vs) J = asum (fun p => v p.1 * det vs p.2) (picks J) := rfl
theorem detC_cons (vs : List Vec) (j : Int) (J : List Int) : detC vs (j :: J) = asum (fun p => p.1 j * detC p.2 J) (picks vs) := rfl
theorem asum_picks_cons {α : Type} (f : α × List α → Int) (x : α) (xs : List α) : asum f (picks (x :: xs)) = f (x, xs) - asum (fun p => f (p.1, x :: p.2)) (picks xs) := by
  rw [picks, asum, asum_map]
/-- by columns as by rows -/
theorem detC_eq : ∀ (n : Nat) (vs : List Vec) (J : List Int), vs.length = n → J.length = n → detC vs J = det vs J := by
  intro n
  induction n using Nat.strongRecOn with
  | ind n ih =>
    intro vs J hv hJ
    match vs, J, hv, hJ with
    | [], [], _, _ => rfl
    | [], j :: J, hv, hJ => simp at hv hJ; omega
    | v :: vs, [], hv, hJ => simp at hv hJ; omega
    | v :: vs, j :: J, hv, hJ =>
      simp at hv hJ
      rw [det_cons, detC_cons, asum_picks_cons, asum_picks_cons]
      simp only
      rw [ih vs.length (by omega) vs J rfl (by omega)]
      congr 1
      rw [asum_congr (g := fun p => asum (fun q => p.1 j * (v q.1 * det p.2 q.2)) (picks J)) (fun p hp => by
        have hl := picks_len hp
        rw [asum_mul, ih J.length (by omega) (v :: p.2) J (by simp; omega) rfl, det_cons])]
      rw [asum_congr (xs := picks J) (g := fun q => asum (fun p => p.1 j * (v q.1 * det p.2 q.2)) (picks vs)) (fun q hq => by
        have hl := picks_len hq
        rw [← ih vs.length (by omega) vs (j :: q.2) rfl (by simp; omega), detC_cons, ← asum_mul]
        refine asum_congr (fun p hp => ?_)
        have hl' := picks_len hp
        rw [ih p.2.length (by omega) p.2 q.2 rfl (by omega)]
        grind)]
      rw [asum_swap]
theorem pp_anti {α : Type} : ∀ (J : List α) (G : α → α → List α → Int), asum (fun p => asum (fun q => G p.1 q.1 q.2) (picks p.2)) (picks J) = - asum (fun p => asum (fun q => G q.1 p.1 q.2) (picks p.2)) (picks J)
  | [], G => rfl
  | x :: xs, G => by
    rw [asum_picks_cons, asum_picks_cons]
    simp only
    rw [asum_congr (xs := picks xs) (f := fun p => asum (fun q => G p.1 q.1 q.2) (picks (x :: p.2))) (g := fun p => G p.1 x p.2 - asum (fun q => G p.1 q.1 (x :: q.2)) (picks p.2)) (fun p hp => by rw [asum_picks_cons])]
    rw [asum_congr (xs := picks xs) (f := fun p => asum (fun q => G q.1 p.1 q.2) (picks (x :: p.2))) (g := fun p => G x p.1 p.2 - asum (fun q => G q.1 p.1 (x :: q.2)) (picks p.2)) (fun p hp => by rw [asum_picks_cons])]
    rw [asum_sub, asum_sub, pp_anti xs (fun a b l => G a b (x :: l))]
    omega
theorem det_swap (u v : Vec) (vs : List Vec) (J : List Int) : det (u :: v :: vs) J = - det (v :: u :: vs) J := by
  rw [det_cons, det_cons]
  rw [asum_congr (g := fun p => asum (fun q => u p.1 * (v q.1 * det vs q.2)) (picks p.2)) (fun p hp => by rw [asum_mul, det_cons])]
  rw [asum_congr (xs := picks J) (f := fun p => v p.1 * det (u :: vs) p.2) (g := fun p => asum (fun q => u q.1 * (v p.1 * det vs q.2)) (picks p.2)) (fun p hp => by
    rw [det_cons, ← asum_mul]; exact asum_congr (fun q hq => by grind))]
  exact pp_anti J (fun a b l => u a * (v b * det vs l))
theorem detC_swap (vs : List Vec) (i j : Int) (J : List Int) : detC vs (i :: j :: J) = - detC vs (j :: i :: J) := by
  rw [detC_cons, detC_cons]
  rw [asum_congr (g := fun p : Vec × List Vec => asum (fun q => p.1 i * (q.1 j * detC q.2 J)) (picks p.2)) (fun p hp => by rw [asum_mul, detC_cons])]
  rw [asum_congr (xs := picks vs) (f := fun p => p.1 j * detC p.2 (i :: J)) (g := fun p : Vec × List Vec => asum (fun q => q.1 i * (p.1 j * detC q.2 J)) (picks p.2)) (fun p hp => by
    rw [detC_cons, ← asum_mul]; exact asum_congr (fun q hq => by grind))]
  exact pp_anti vs (fun a b l => a i * (b j * detC l J))
theorem det_col_swap {vs : List Vec} {i j : Int} {J : List Int} (h : vs.length = J.length + 2) : det vs (i :: j :: J) = - det vs (j :: i :: J) := by
  rw [← detC_eq _ vs _ rfl (by simp; omega), ← detC_eq _ vs (j :: i :: J) rfl (by simp; omega), detC_swap]
theorem det_same {u : Vec} : ∀ {vs : List Vec} {J : List Int}, u ∈ vs → det (u :: vs) J = 0
  | [], J, h => by simp at h
  | v :: vs, J, h => by
    rcases List.mem_cons.mp h with e | e
    · subst e; have := det_swap u u vs J; omega
    · rw [det_swap, det_cons, asum_congr (g := fun _ => 0) (fun p hp => by rw [det_same e]; simp), asum_zero]; rfl
theorem detC_same {j : Int} : ∀ {J : List Int} {vs : List Vec}, j ∈ J → detC vs (j :: J) = 0
  | [], vs, h => by simp at h
  | i :: J, vs, h => by
    rcases List.mem_cons.mp h with e | e
    · subst e; have := detC_swap vs j j J; omega
    · rw [detC_swap, detC_cons, asum_congr (g := fun _ => 0) (fun p hp => by rw [detC_same e]; simp), asum_zero]; rfl
theorem det_col_same {j : Int} {J : List Int} {vs : List Vec} (hl : vs.length = J.length + 1) (h : j ∈ J) : det vs (j :: J) = 0 := by
  rw [← detC_eq _ vs _ rfl (by simp; omega)]; exact detC_same h
theorem det_lin (u v : Vec) (a b : Int) (vs : List Vec) (J : List Int) : det ((fun j => a * u j + b * v j) :: vs) J = a * det (u :: vs) J + b * det (v :: vs) J := by
  rw [det_cons, det_cons, det_cons, ← asum_mul, ← asum_mul, ← asum_add]
  exact asum_congr (fun p hp => by grind)
theorem det_tail {c : Int} {vs vs' : List Vec} (h : ∀ J, det vs J = c * det vs' J) (v : Vec) (J : List Int) : det (v :: vs) J = c * det (v :: vs') J := by
  rw [det_cons, det_cons, ← asum_mul]
  exact asum_congr (fun p hp => by rw [h]; grind)
theorem det_congr_row {vs vs' : List Vec} : ∀ {J : List Int}, vs.length = vs'.length → (∀ (k : Nat) (j : Int), j ∈ J → (vs[k]?.getD (fun _ => 0)) j = (vs'[k]?.getD (fun _ => 0)) j) → det vs J = det vs' J := by
  induction vs generalizing vs' with
  | nil => intro J hl h; cases vs' with
    | nil => rfl
    | cons => simp at hl
  | cons v vs ih => intro J hl h; cases vs' with
    | nil => simp at hl
    | cons v' vs' =>
      rw [det_cons, det_cons]
      refine asum_congr (fun p hp => ?_)
      have hm := picks_mem hp
      have e1 := h 0 p.1 hm.1
      simp at e1
      rw [e1, ih (J := p.2) (by simpa using hl) (fun k j hj => by
        have := h (k + 1) j (hm.2 j hj); simpa using this)]
/-- Cramer: a row that is among the rows, at a further column -/
theorem cramer {vs : List Vec} {x : Vec} {J : List Int} (hx : x ∈ vs) (j : Int) : det vs J * x j = asum (fun q => x q.1 * det vs (j :: q.2)) (picks J) := by
  have := det_same (J := j :: J) hx
  rw [det_cons, asum_picks_cons] at this
  simp only at this
  rw [Int.mul_comm]; omega
theorem asum_bound {α : Type} {f : α → Int} {c : Int} : ∀ {xs : List α}, (∀ x, x ∈ xs → ((f x).natAbs : Int) ≤ c) → ((asum f xs).natAbs : Int) ≤ xs.length * c
  | [], _ => by simp [asum]
  | x :: xs, h => by
    have h1 := h x (List.mem_cons_self ..)
    have h2 := asum_bound (fun y hy => h y (List.mem_cons_of_mem _ hy))
    rw [asum, List.length_cons, show (((xs.length + 1 : Nat)) : Int) * c = xs.length * c + c by rw [Int.natCast_add, Int.add_mul]; simp]
    omega
theorem picks_length {α : Type} : ∀ xs : List α, (picks xs).length = xs.length
  | [] => rfl
  | x :: xs => by rw [picks, List.length_cons, List.length_map, picks_length xs]; rfl
def fac : Nat → Int
  | 0 => 1
  | n + 1 => (n + 1) * fac n
theorem fac_nn : ∀ n, 0 ≤ fac n
  | 0 => by decide
  | n + 1 => Int.mul_nonneg (by omega) (fac_nn n)
theorem det_bound {b : Int} (hb : 0 ≤ b) : ∀ {vs : List Vec} {J : List Int}, vs.length = J.length → (∀ v, v ∈ vs → ∀ j, j ∈ J → ((v j).natAbs : Int) ≤ b) → ((det vs J).natAbs : Int) ≤ fac J.length * b ^ J.length
  | [], J, hl, _ => by
    have : J = [] := by cases J with
      | nil => rfl
      | cons => simp at hl
    subst this; simp [det, fac]
  | v :: vs, J, hl, h => by
    obtain ⟨n, hn⟩ : ∃ n, J.length = n + 1 := ⟨J.length - 1, by simp at hl; omega⟩
    have hb' : 0 ≤ b ^ n := Int.pow_nonneg hb
    have := asum_bound (f := fun p => v p.1 * det vs p.2) (c := b * (fac n * b ^ n)) (xs := picks J) (fun p hp => by
      have hm := picks_mem hp
      have hk := picks_len hp
      have hpl : p.2.length = n := by omega
      have h1 := h v (List.mem_cons_self ..) p.1 hm.1
      have h2 := det_bound hb (vs := vs) (J := p.2) (by simp at hl; omega) (fun u hu j hj => h u (List.mem_cons_of_mem _ hu) j (hm.2 j hj))
      rw [hpl] at h2
      show (((v p.1 * det vs p.2).natAbs : Nat) : Int) ≤ _
      rw [Int.natAbs_mul, Int.natCast_mul]
      exact Int.mul_le_mul h1 h2 (by omega) hb)
    rw [det_cons, hn, fac]
    rw [picks_length, hn] at this
    have e : ((n + 1 : Nat) : Int) * (b * (fac n * b ^ n)) = ((n : Int) + 1) * fac n * b ^ (n + 1) := by
      rw [Int.natCast_add]; grind
    rw [← e]; exact this
