/-! MATHEMATICS: sets of rows and lists of rows -/
def tr (C : Int) (v : Vec) : Vec := fun j => if 0 ≤ j ∧ j < C then v j else 0
theorem tr_in {C : Int} {v : Vec} {j : Int} (h0 : 0 ≤ j) (h1 : j < C) : tr C v j = v j := by unfold tr; rw [if_pos ⟨h0, h1⟩]
theorem tr_out {C : Int} {v : Vec} {j : Int} (h : ¬ (0 ≤ j ∧ j < C)) : tr C v j = 0 := by unfold tr; rw [if_neg h]
theorem tr_zero (C : Int) : tr C (fun _ => 0) = fun _ => 0 := by funext j; unfold tr; simp
theorem tr_lin (C : Int) (x v : Vec) (c : Int) : tr C (fun j => x j - c * v j) = fun j => tr C x j - c * tr C v j := by
  funext e; unfold tr; by_cases h : 0 ≤ e ∧ e < C
  · simp only [if_pos h]
  · simp only [if_neg h]; simp
/-- row i of what is looked at -/
def rwg (g : Int → Int) (C : Int) (i : Int) : Vec := tr C (fun j => g (12 * i + j))
def rowsOf (R : Nat) (C : Int) (g : Int → Int) : List Vec := fam (fun i => rwg g C i) R 0
theorem rowsOf_mem {R : Nat} {C : Int} {g : Int → Int} {v : Vec} : v ∈ rowsOf R C g ↔ ∃ i : Int, 0 ≤ i ∧ i < R ∧ v = rwg g C i := by
  unfold rowsOf; rw [fam_mem]
  constructor
  · rintro ⟨i, _, h, e⟩; exact ⟨i, by omega, by omega, e⟩
  · rintro ⟨i, h0, h1, e⟩; exact ⟨i.toNat, by omega, by omega, by rw [show ((i.toNat : Nat) : Int) = i by omega]; exact e⟩
theorem rowsOf_len (R : Nat) (C : Int) (g : Int → Int) : (rowsOf R C g).length = R := fam_len _ _ _
theorem rowsOf_out {R : Nat} {C : Int} {g : Int → Int} : ∀ v, v ∈ rowsOf R C g → ∀ j, ¬ (0 ≤ j ∧ j < C) → v j = 0 := by
  intro v hv j hj
  obtain ⟨i, _, _, rfl⟩ := rowsOf_mem.mp hv
  exact tr_out hj
theorem S_add : ∀ (y : Fin 64) (i : Fin 6), ((i : Nat) : Int) ∉ els 6 ((y : Nat) : Int) → (els 6 (((y : Nat) : Int) + 2 ^ (i : Nat))).isPerm (((i : Nat) : Int) :: els 6 ((y : Nat) : Int)) = true := by decide
theorem S_lt : ∀ (R : Fin 7) (y : Fin 64) (i : Fin 6), (i : Nat) < (R : Nat) → ((y : Nat) : Int) < 2 ^ (R : Nat) → ((i : Nat) : Int) ∉ els 6 ((y : Nat) : Int) → ((y : Nat) : Int) + 2 ^ (i : Nat) < 2 ^ (R : Nat) := by decide
theorem set_of {R : Nat} (hR : R ≤ 6) : ∀ {l : List Int}, l.Nodup → (∀ i, i ∈ l → 0 ≤ i ∧ i < R) → ∃ y : Int, 0 ≤ y ∧ y < 2 ^ R ∧ (els 6 y).Perm l
  | [], _, _ => ⟨0, by omega, by have := S_pow hR; omega, by decide⟩
  | i :: l, hn, hm => by
    have hn := List.nodup_cons.mp hn
    obtain ⟨y, y0, y1, hp⟩ := set_of hR hn.2 (fun k hk => hm k (List.mem_cons_of_mem _ hk))
    have hi := hm i (List.mem_cons_self ..)
    have h64 := S_pow hR
    obtain ⟨n, rfl⟩ := Int.eq_ofNat_of_zero_le y0
    obtain ⟨k, rfl⟩ := Int.eq_ofNat_of_zero_le hi.1
    have hne : ((k : Nat) : Int) ∉ els 6 ((n : Nat) : Int) := fun h => hn.1 (hp.mem_iff.mp h)
    have a := S_add ⟨n, by omega⟩ ⟨k, by omega⟩ hne
    have b := S_lt ⟨R, by omega⟩ ⟨n, by omega⟩ ⟨k, by omega⟩ (by simp only; omega) y1 hne
    have c : (0 : Int) < 2 ^ k := Int.pow_pos (by decide)
    exact ⟨(n : Int) + 2 ^ k, by omega, b, (List.isPerm_iff.mp a).trans (List.Perm.cons _ hp)⟩
theorem idx_of {R : Nat} {C : Int} {g : Int → Int} : ∀ {l : List Vec}, (∀ v, v ∈ l → v ∈ rowsOf R C g) → ∃ L : List Int, l = L.map (rwg g C) ∧ ∀ i, i ∈ L → 0 ≤ i ∧ i < R
  | [], _ => ⟨[], rfl, fun i h => by simp at h⟩
  | v :: l, h => by
    obtain ⟨L, e, hL⟩ := idx_of (fun u hu => h u (List.mem_cons_of_mem _ hu))
    obtain ⟨i, i0, i1, rfl⟩ := rowsOf_mem.mp (h v (List.mem_cons_self ..))
    refine ⟨i :: L, by rw [e, List.map_cons], fun k hk => ?_⟩
    rcases List.mem_cons.mp hk with q | q
    · subst q; exact ⟨i0, i1⟩
    · exact hL k q
theorem nodup_of_map {α β : Type} {f : α → β} : ∀ {l : List α}, (l.map f).Nodup → l.Nodup
  | [], _ => List.nodup_nil
  | a :: l, h => by
    rw [List.map_cons, List.nodup_cons] at h
    exact List.nodup_cons.mpr ⟨fun ha => h.1 (List.mem_map_of_mem ha), nodup_of_map h.2⟩
theorem sets_lists {R : Nat} {C : Int} {g : Int → Int} {J : List Int} {d : Int} (hR : R ≤ 6) (hJ : ∀ j, j ∈ J → 0 ≤ j ∧ j < C) :
    (∀ y, 0 ≤ y → y < 2 ^ R → (els 6 y).length = J.length → d ∣ detC ((els 6 y).map (fun i j => g (12 * i + j))) J) ↔ ∀ l : List Vec, l.length = J.length → (∀ v, v ∈ l → v ∈ rowsOf R C g) → d ∣ det l J := by
  have ec : ∀ L : List Int, detC (L.map (fun i j => g (12 * i + j))) J = detC (L.map (rwg g C)) J := fun L => detC_congr (fun i _ j hj => by unfold rwg; rw [tr_in (hJ j hj).1 (hJ j hj).2])
  constructor
  · intro h l hl hm
    by_cases hn : l.Nodup
    · obtain ⟨L, rfl, hL⟩ := idx_of hm
      obtain ⟨y, y0, y1, hp⟩ := set_of hR (nodup_of_map hn) hL
      have hpm := hp.map (rwg g C)
      obtain ⟨e, he, h1⟩ := det_perm hpm.symm
      rw [List.length_map] at hl
      have := h y y0 y1 (by rw [hp.length_eq]; exact hl)
      rw [ec, detC_eq _ _ _ rfl (by rw [List.length_map, hp.length_eq]; exact hl.symm)] at this
      rw [h1]
      exact Int.dvd_mul_of_dvd_right this
    · rw [det_dup hn]; exact Int.dvd_zero d
  · intro h y y0 y1 hl
    rw [ec, detC_eq _ _ _ rfl (by rw [List.length_map]; exact hl.symm)]
    refine h _ (by rw [List.length_map]; exact hl) (fun v hv => ?_)
    obtain ⟨i, hi, rfl⟩ := List.mem_map.mp hv
    rw [← S_cut y0 hR y1] at hi
    exact rowsOf_mem.mpr ⟨i, (els_mem hi).1, (els_mem hi).2, rfl⟩
