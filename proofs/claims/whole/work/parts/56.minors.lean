/-! sets of at most six; minors of the reference -/
theorem jI_xorm : ∀ a : Fin 64, jI ((a : Nat) : Int) ^^^ jI (-1) = jI (-1 - ((a : Nat) : Int)) := by decide
theorem jI_andn : ∀ (x : Fin 64) (k : Fin 6), jI ((x : Nat) : Int) &&& jI (-1 - 2 ^ (k : Nat)) = jI (((x : Nat) : Int) - 2 ^ (k : Nat) * (((x : Nat) : Int) / 2 ^ (k : Nat) % 2)) := by decide
theorem els_12 : ∀ x : Fin 64, els 12 ((x : Nat) : Int) = els 6 ((x : Nat) : Int) := by decide
theorem els_er : ∀ (x : Fin 64) (k : Fin 6), ((x : Nat) : Int) / 2 ^ (k : Nat) % 2 = 1 → els 6 (((x : Nat) : Int) - 2 ^ (k : Nat)) = (els 6 ((x : Nat) : Int)).erase ((k : Nat) : Int) ∧ 2 ^ (k : Nat) ≤ ((x : Nat) : Int) ∧ ((k : Nat) : Int) ∈ els 6 ((x : Nat) : Int) := by decide
theorem els_cut : ∀ (c : Fin 7) (x : Fin 64), ((x : Nat) : Int) < 2 ^ (c : Nat) → els (c : Nat) ((x : Nat) : Int) = els 6 ((x : Nat) : Int) := by decide
theorem els_nd : ∀ x : Fin 64, (els 6 ((x : Nat) : Int)).Nodup := by decide
theorem pow_64 : ∀ c : Fin 7, (1 : Int) ≤ 2 ^ (c : Nat) ∧ (2 : Int) ^ (c : Nat) ≤ 64 := by decide
theorem S_12 {x : Int} (h0 : 0 ≤ x) (h1 : x < 64) : els 12 x = els 6 x := by
  obtain ⟨n, rfl⟩ := Int.eq_ofNat_of_zero_le h0; exact els_12 ⟨n, by omega⟩
theorem S_er {x : Int} {k : Nat} (h0 : 0 ≤ x) (h1 : x < 64) (hk : k < 6) (hb : x / 2 ^ k % 2 = 1) : els 6 (x - 2 ^ k) = (els 6 x).erase k ∧ 2 ^ k ≤ x ∧ (k : Int) ∈ els 6 x := by
  obtain ⟨n, rfl⟩ := Int.eq_ofNat_of_zero_le h0; exact els_er ⟨n, by omega⟩ ⟨k, hk⟩ hb
theorem S_cut {x : Int} {c : Nat} (h0 : 0 ≤ x) (hc : c ≤ 6) (h1 : x < 2 ^ c) : els c x = els 6 x := by
  have := pow_64 ⟨c, by omega⟩
  obtain ⟨n, rfl⟩ := Int.eq_ofNat_of_zero_le h0; exact els_cut ⟨c, by omega⟩ ⟨n, by simp only at this; omega⟩ h1
theorem S_nd {x : Int} (h0 : 0 ≤ x) (h1 : x < 64) : (els 6 x).Nodup := by
  obtain ⟨n, rfl⟩ := Int.eq_ofNat_of_zero_le h0; exact els_nd ⟨n, by omega⟩
theorem S_pow {c : Nat} (hc : c ≤ 6) : (1 : Int) ≤ 2 ^ c ∧ (2 : Int) ^ c ≤ 64 := pow_64 ⟨c, by omega⟩
section BITS3
variable {xs : List Int32} {fr lo z pc p l u1 u2 u3 : Nat} {ls : List (Option Value)} {st : List Value} {w : ax_W} {Q : Outcome → ax_W → Prop} {M : ax_M} {a x : Int} {k : Nat}
theorem b_ixor (hM : ax_prog[z]? = some M) (he : M.1[pc]? = some (some (.ixor, l, u1, u2, u3))) (hp : pc + l = p) (a0 : 0 ≤ a) (a1 : a < 64) (kk : fin xs fr lo z p ls (.int (jI (-1 - a)) :: st) w Q) : fin xs fr lo z pc ls (.int (jI (-1)) :: .int (jI a) :: st) w Q := by
  subst hp
  obtain ⟨n, rfl⟩ := Int.eq_ofNat_of_zero_le a0
  have e := jI_xorm ⟨n, by omega⟩
  simp only at e
  rw [← e] at kk; exact fi_step hM he rfl kk
theorem b_andn (hM : ax_prog[z]? = some M) (he : M.1[pc]? = some (some (.iand, l, u1, u2, u3))) (hp : pc + l = p) (x0 : 0 ≤ x) (x1 : x < 64) (hk : k < 6) (hb : x / 2 ^ k % 2 = 1) (kk : fin xs fr lo z p ls (.int (jI (x - 2 ^ k)) :: st) w Q) : fin xs fr lo z pc ls (.int (jI (-1 - 2 ^ k)) :: .int (jI x) :: st) w Q := by
  subst hp
  obtain ⟨n, rfl⟩ := Int.eq_ofNat_of_zero_le x0
  have e := jI_andn ⟨n, by omega⟩ ⟨k, hk⟩
  simp only at e
  rw [hb, Int.mul_one] at e
  rw [← e] at kk; exact fi_step hM he rfl kk
end BITS3
theorem picks_map {α β : Type} (f : α → β) : ∀ xs : List α, picks (xs.map f) = (picks xs).map (fun p => (f p.1, p.2.map f))
  | [] => rfl
  | x :: xs => by
    rw [List.map_cons, picks, picks, picks_map f xs]
    simp [List.map_map, Function.comp_def]
theorem picks_nd : ∀ {xs : List Int}, xs.Nodup → picks xs = xs.map (fun x => (x, xs.erase x))
  | [], _ => rfl
  | x :: xs, h => by
    have h' := List.nodup_cons.mp h
    rw [picks, picks_nd h'.2, List.map_cons, List.erase_cons_head, List.map_map]
    congr 1
    apply List.map_congr_left
    intro y hy
    simp only [Function.comp_def]
    rw [List.erase_cons_tail (by simp; intro e; exact h'.1 (e ▸ hy))]
/-- along the first column, for rows that are numbered -/
theorem detC_nd {L : List Int} (h : L.Nodup) (row : Int → Vec) (j : Int) (J : List Int) : detC (L.map row) (j :: J) = asum (fun i => row i j * detC ((L.erase i).map row) J) L := by
  rw [detC_cons, picks_map, asum_map, picks_nd h, asum_map]
def sg (n : Nat) : Int := if n % 2 = 0 then 1 else -1
theorem sg_succ (n : Nat) : sg (n + 1) = - sg n := by
  unfold sg; by_cases h : n % 2 = 0
  · rw [if_pos h, if_neg (by omega)]
  · rw [if_neg h, if_pos (by omega)]; rfl
theorem sg_even {n : Nat} (h : n % 2 = 0) : sg n = 1 := if_pos h
theorem sg_odd {n : Nat} (h : n % 2 = 1) : sg n = -1 := if_neg (by omega)
/-- the minor of the rows in a set, in the last of these columns first -/
def mnr (g : Int → Int) (p : Int → Int) (x : Int) : Int := detC ((els 6 x).map (fun i j => g (12 * i + j))) (plist p (els 6 x).length)
def MBND : Int := 720 * 1000000000000000000 ^ 6
theorem els_sub {x : Int} {n m : Nat} (h : n ≤ m) : ∀ i, i ∈ els n x → i ∈ els m x := by
  induction m with
  | zero => intro i hi; have : n = 0 := by omega
            subst this; exact hi
  | succ m ih =>
    intro i hi
    rcases Nat.lt_or_ge n (m + 1) with h' | h'
    · have := ih (by omega) i hi
      rw [els]; split
      · exact List.mem_cons_of_mem _ this
      · exact this
    · have : n = m + 1 := by omega
      subst this; exact hi
theorem mem_plist {p : Int → Int} : ∀ {n : Nat} {j : Int}, j ∈ plist p n → ∃ k : Nat, k < n ∧ j = p k
  | 0, j, h => by simp [plist] at h
  | n + 1, j, h => by
    rw [plist] at h
    rcases List.mem_cons.mp h with e | e
    · exact ⟨n, by omega, e⟩
    · obtain ⟨k, h1, h2⟩ := mem_plist e; exact ⟨k, by omega, h2⟩
theorem plist_len (p : Int → Int) : ∀ n : Nat, (plist p n).length = n
  | 0 => rfl
  | n + 1 => by rw [plist, List.length_cons, plist_len p n]
theorem fac6 : ∀ n : Fin 7, fac (n : Nat) * 1000000000000000000 ^ (n : Nat) ≤ 720 * 1000000000000000000 ^ 6 := by decide
theorem mnr_bound {g p : Int → Int} {x : Int} {R : Nat} (hR : R ≤ 6) (x0 : 0 ≤ x) (x1 : x < 2 ^ R) (hb : ∀ i j : Int, 0 ≤ i → i < R → (∃ k : Nat, k < (els 6 x).length ∧ j = p k) → ((g (12 * i + j)).natAbs : Int) ≤ 1000000000000000000) : ((mnr g p x).natAbs : Int) ≤ MBND := by
  have hl := els_len x 6
  unfold mnr
  rw [detC_eq _ _ _ (by rw [List.length_map]) (plist_len _ _)]
  have := det_bound (b := 1000000000000000000) (by decide) (vs := (els 6 x).map (fun i j => g (12 * i + j))) (J := plist p (els 6 x).length) (by rw [List.length_map, plist_len]) (fun v hv j hj => by
    obtain ⟨i, hi, rfl⟩ := List.mem_map.mp hv
    rw [← S_cut x0 hR x1] at hi
    have := els_mem hi
    exact hb i j this.1 this.2 (mem_plist hj))
  rw [plist_len] at this
  have h6 := fac6 ⟨(els 6 x).length, by omega⟩
  simp only at h6
  unfold MBND
  omega
theorem big_rm : 8 * 1000000000000000000 * MBND < rm 138 := by
  have : (8 * 1000000000000000000 * MBND : Int) < 16777216 ^ 20 := by unfold MBND; decide
  exact Int.lt_of_lt_of_le this (le_rm (by decide))
theorem rm_138 : rm 138 ≤ rm 140 := rm_le (by decide)
