theorem detC_swap_in (vs : List Vec) (a b : Int) (l : List Int) : ∀ (pre : List Int), detC vs (pre ++ a :: b :: l) = - detC vs (pre ++ b :: a :: l) := by
  intro pre
  induction pre generalizing vs with
  | nil => exact detC_swap vs a b l
  | cons j pre ih =>
    rw [List.cons_append, List.cons_append, detC_cons, detC_cons, show ∀ z : Int, -z = (-1) * z from fun z => by omega, ← asum_mul]
    exact asum_congr (fun p hp => by rw [ih]; grind)
theorem fill_sum {B : List Vec} {x : Vec} {lead : Int → Int} {j : Int} : ∀ (r : Nat) (pre : List Int), asum (fun q => x q.1 * detC B (pre ++ j :: q.2)) (picks (plist lead r)) = sumP (fun k => x (lead k) * detC B (pre ++ plist (up1 lead k j) r)) r
  | 0, pre => rfl
  | r + 1, pre => by
    rw [plist, asum_picks_cons, sumP]
    have ih := fill_sum (B := B) (x := x) (lead := lead) (j := j) r (pre ++ [lead r])
    simp only
    rw [asum_congr (xs := picks (plist lead r)) (g := fun p => (-1) * (x p.1 * detC B (pre ++ [lead r] ++ j :: p.2))) (fun p hp => by rw [detC_swap_in]; simp [Int.mul_neg]), asum_mul, ih]
    rw [sumP_congr (n := r) (g := fun k => x (lead k) * detC B (pre ++ plist (up1 lead k j) (r + 1))) (fun k hk => by
      rw [plist, up1_ne _ (by omega)]; simp)]
    rw [plist, up1_same, plist_congr (g := lead) (f := up1 lead r j) (n := r) (fun k hk => up1_ne _ (by omega) _)]
    omega
/-- one row less a multiple of another, and less what lies in U -/
theorem fam_step {A U : List Vec} {v v' : Nat → Vec} {n i b : Nat} (hi : i < n) (hb : b < n) (hne : b ≠ i) (hs : ∀ m, m < n → m ≠ i → v' m = v m) {q : Int} {z : Vec} (hz : sp U z) (hv : ∀ e, v' i e = v i e - q * v b e - z e) : spEq (A ++ (fam v n 0 ++ U)) (A ++ (fam v' n 0 ++ U)) := by
  have inA : ∀ {u : Nat → Vec} {w : Vec}, w ∈ A → sp (A ++ (fam u n 0 ++ U)) w := fun h => sp_mem (List.mem_append.mpr (Or.inl h))
  have inF : ∀ {u : Nat → Vec} {m : Nat}, m < n → sp (A ++ (fam u n 0 ++ U)) (u m) := fun {u m} h => sp_mem (List.mem_append.mpr (Or.inr (List.mem_append.mpr (Or.inl (fam_mem.mpr ⟨m, by omega, by omega, rfl⟩)))))
  have inU : ∀ {u : Nat → Vec} {w : Vec}, w ∈ U → sp (A ++ (fam u n 0 ++ U)) w := fun h => sp_mem (List.mem_append.mpr (Or.inr (List.mem_append.mpr (Or.inr h))))
  have inz : ∀ {u : Nat → Vec}, sp (A ++ (fam u n 0 ++ U)) z := fun {u} => sp_sub' (fun w hw => inU hw) hz
  refine spEq_of (fun w hw => ?_) (fun w hw => ?_)
  · rcases List.mem_append.mp hw with h | h
    · exact inA h
    · rcases List.mem_append.mp h with h | h
      · obtain ⟨m, _, hm, rfl⟩ := fam_mem.mp h
        by_cases e : m = i
        · subst e
          have hbb := inF (u := v') hb
          rw [hs b hb hne] at hbb
          exact sp_ext (sp_add (sp_add (inF (u := v') hi) (sp_mul q hbb)) inz) (fun e => by rw [hv e]; grind)
        · rw [← hs m (by omega) e]; exact inF (by omega)
      · exact inU h
  · rcases List.mem_append.mp hw with h | h
    · exact inA h
    · rcases List.mem_append.mp h with h | h
      · obtain ⟨m, _, hm, rfl⟩ := fam_mem.mp h
        by_cases e : m = i
        · subst e
          exact sp_ext (sp_sub (sp_sub (inF (u := v) hi) (sp_mul q (inF (u := v) hb))) inz) (fun e => by rw [hv e])
        · rw [hs m (by omega) e]; exact inF (by omega)
      · exact inU h
theorem spEq_refl (vs : List Vec) : spEq vs vs := fun _ => Iff.rfl
theorem spEq_trans {a b c : List Vec} (h : spEq a b) (h' : spEq b c) : spEq a c := fun x => (h x).trans (h' x)
theorem spEq_symm {a b : List Vec} (h : spEq a b) : spEq b a := fun x => (h x).symm
/-- D at one place -/
def un (D : Int) (m : Nat) : Vec := fun e => if e = m then D else 0
theorem un_sp {D : Int} : ∀ {n k : Nat} {z : Vec}, (∀ e : Int, ¬ ((k : Int) ≤ e ∧ e < k + n) → z e = 0) → (∀ e, D ∣ z e) → sp (fam (un D) n k) z
  | 0, k, z, h0, _ => fun e => h0 e (by omega)
  | n + 1, k, z, h0, hd => by
    obtain ⟨c, hc⟩ := hd k
    refine ⟨c, un_sp (fun e he => ?_) (fun e => ?_)⟩
    · by_cases h : e = k
      · subst h; simp only [un, if_pos]; rw [hc, Int.mul_comm]; omega
      · simp only [un, if_neg h]; rw [h0 e (by omega)]; simp
    · by_cases h : e = k
      · subst h; simp only [un, if_pos]; rw [hc, Int.mul_comm]; exact ⟨0, by omega⟩
      · simp only [un, if_neg h]; simpa using hd e
