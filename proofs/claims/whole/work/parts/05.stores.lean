/-! instructions that write a local, and branches -/
section AX2
variable {p : Program} {l : Launch} {e : Env} {R : Room} {s : State} {m : MethodId} {args : Array Value} {below : List Frame} {meth : Method} {c : Code} {H : Heap} {locs : List Loc} {cells slots : Nat} {Q : State → Prop}
variable {cc : ByteArray} {pc n : Nat} {A : Array Slot} {B : Nat} {X : Nat → Value} {ls ls' : List (Option Value)} {st st' : List Value} {i : Instr}
theorem ax_sI_inv {k : Nat} {r : List (Option Value) × List Value} (h : ax_sI k ls st = some r) : ∃ x t, k < ls.length ∧ st = .int x :: t ∧ r = (ax_set1 ls k (.int x), t) := by
  unfold ax_sI at h; split at h
  · split at h
    · rename_i hk; cases h; exact ⟨_, _, hk, rfl, rfl⟩
    · cases h
  · cases h
theorem ax_sL_inv {k : Nat} {r : List (Option Value) × List Value} (h : ax_sL k ls st = some r) : ∃ x t, k + 1 < ls.length ∧ st = .long x :: t ∧ r = (ax_set2 ls k (.long x), t) := by
  unfold ax_sL at h; split at h
  · split at h
    · rename_i hk; cases h; exact ⟨_, _, hk, rfl, rfl⟩
    · cases h
  · cases h
theorem ax_sA_inv {k : Nat} {r : List (Option Value) × List Value} (h : ax_sA k ls st = some r) : ∃ v t, k < ls.length ∧ st = v :: t ∧ ((∃ x, v = .ref x) ∨ ∃ x, v = .retAddr x) ∧ r = (ax_set1 ls k v, t) := by
  unfold ax_sA at h; split at h
  · split at h
    · rename_i hk; cases h; exact ⟨_, _, hk, rfl, Or.inl ⟨_, rfl⟩, rfl⟩
    · cases h
  · split at h
    · rename_i hk; cases h; exact ⟨_, _, hk, rfl, Or.inr ⟨_, rfl⟩, rfl⟩
    · cases h
  · cases h
theorem ax_inc_inv {k : Nat} {d : Int} {r : List (Option Value) × List Value} (h : ax_inc k d ls st = some r) : ∃ x, ls[k]? = some (some (.int x)) ∧ r = (ax_set1 ls k (.int (x + Int32.ofInt d)), st) := by
  unfold ax_inc at h; split at h
  · rename_i hk; cases h; exact ⟨_, hk, rfl⟩
  · cases h
theorem ax_sto_ok (hX : ax_Xr X) (hexec : p.tables.exec = Jvm.exec) (hb : c.code = cc) (hL : ax_L B X A n ls) (hd : decode cc pc = .ok (i, ax_len i)) (h : ax_sto i ls st = some (ls', st'))
    (k : ∀ A' : Array Slot, ax_L B X A' n ls' → W p l e R s m args below meth c H locs cells slots Q (F0 m (pc + ax_len i) A' (st'.map (ax_v B X)))) : W p l e R s m args below meth c H locs cells slots Q (F0 m pc A (st.map (ax_v B X))) := by
  unfold ax_sto at h
  split at h
  · obtain ⟨x, t, hk, rfl, e⟩ := ax_sI_inv h; cases e
    exact lv_istore hexec hb hd hL.has (by rw [← hL.2.2.1]; exact hk) rfl fun A' h' => k A' (hL.set1 hX h')
  · obtain ⟨x, t, hk, rfl, e⟩ := ax_sI_inv h; cases e
    exact lv_istore_n hexec hb hd rfl hL.has (by rw [← hL.2.2.1]; exact hk) rfl fun A' h' => k A' (hL.set1 hX h')
  · obtain ⟨x, t, hk, rfl, e⟩ := ax_sL_inv h; cases e
    exact lv_lstore hexec hb hd hL.has (by rw [← hL.2.2.1]; exact hk) rfl fun A' h' => k A' (hL.set2 hX h')
  · obtain ⟨x, t, hk, rfl, e⟩ := ax_sL_inv h; cases e
    exact lv_lstore_n hexec hb hd rfl hL.has (by rw [← hL.2.2.1]; exact hk) rfl fun A' h' => k A' (hL.set2 hX h')
  · obtain ⟨v, t, hk, rfl, hv, e⟩ := ax_sA_inv h; cases e
    rcases hv with ⟨x, rfl⟩ | ⟨x, rfl⟩
    · exact lv_astore hexec hb hd hL.has (by rw [← hL.2.2.1]; exact hk) rfl fun A' h' => k A' (hL.set1 hX h')
    · obtain ⟨y, hy⟩ := hX x
      have e1 : ax_v B X (.retAddr x) = .ref y := hy
      rw [List.map_cons, e1]
      exact lv_astore hexec hb hd hL.has (by rw [← hL.2.2.1]; exact hk) rfl fun A' h' => k A' (hL.set1 hX (by rw [e1]; exact h'))
  · obtain ⟨v, t, hk, rfl, hv, e⟩ := ax_sA_inv h; cases e
    rcases hv with ⟨x, rfl⟩ | ⟨x, rfl⟩
    · exact lv_astore_n hexec hb hd rfl hL.has (by rw [← hL.2.2.1]; exact hk) rfl fun A' h' => k A' (hL.set1 hX h')
    · obtain ⟨y, hy⟩ := hX x
      have e1 : ax_v B X (.retAddr x) = .ref y := hy
      rw [List.map_cons, e1]
      exact lv_astore_n hexec hb hd rfl hL.has (by rw [← hL.2.2.1]; exact hk) rfl fun A' h' => k A' (hL.set1 hX (by rw [e1]; exact h'))
  · rename_i kn d
    obtain ⟨x, hk, e⟩ := ax_inc_inv h; cases e
    obtain ⟨q, hq⟩ := List.getElem?_of_mem (ax_asc_mem (B := B) (X := X) (q := (kn, .int x)).mpr ⟨_, hk, rfl⟩)
    exact lv_iinc hexec hb hd hL.has hq rfl (by rw [← hL.2.2.1]; exact (List.getElem?_eq_some_iff.mp hk).1) rfl fun A' h' => k A' (hL.set1 hX h')
  · cases h
theorem ax_br_ok (hexec : p.tables.exec = Jvm.exec) (hb : c.code = cc) {len t pc' : Nat} (hd : decode cc pc = .ok (i, len)) (hlen : (∀ d lo hi offs, i ≠ .tableswitch d lo hi offs) → len = 3)
    (ht : ∀ off, (i = .goto off ∨ (∃ q, i = .ifCond q off) ∨ ∃ q, i = .if_icmp q off) → (pc : Int) + off = (t : Int))
    (hs : ∀ d lo hi offs, i = .tableswitch d lo hi offs → 0 ≤ (pc : Int) + d ∧ ∀ o ∈ offs, 0 ≤ (pc : Int) + o)
    (h : ax_br i t (pc + len) pc st = some (pc', st'))
    (k : W p l e R s m args below meth c H locs cells slots Q (F0 m pc' A (st'.map (ax_v B X)))) : W p l e R s m args below meth c H locs cells slots Q (F0 m pc A (st.map (ax_v B X))) := by
  unfold ax_br at h
  split at h
  · rename_i off
    cases h
    cases hlen (fun _ _ _ _ q => by cases q)
    exact lv_goto hexec hb hd (ht off (Or.inl rfl)) k
  · rename_i q off
    split at h
    · rename_i x r
      cases hlen (fun _ _ _ _ q => by cases q)
      simp only [Option.some.injEq, Prod.mk.injEq] at h
      obtain ⟨h1, rfl⟩ := h
      have htt := ht off (Or.inr (Or.inl ⟨q, rfl⟩))
      cases q <;> simp only [ax_cmp, decide_eq_true_eq, Bool.not_eq_true', decide_eq_false_iff_not] at h1
      · refine lv_if_eq hexec hb hd htt (fun q => ?_) (fun q => ?_)
        · rw [if_pos q] at h1; subst h1; exact k
        · rw [if_neg q] at h1; subst h1; exact k
      · refine lv_if_ne hexec hb hd htt (fun q => ?_) (fun q => ?_)
        · rw [if_pos q] at h1; subst h1; exact k
        · rw [if_neg (fun z => z q)] at h1; subst h1; exact k
      · refine lv_if_lt hexec hb hd htt (fun q => ?_) (fun q => ?_)
        · rw [if_pos q] at h1; subst h1; exact k
        · rw [if_neg q] at h1; subst h1; exact k
      · refine lv_if_ge hexec hb hd htt (fun q => ?_) (fun q => ?_)
        · rw [if_pos q] at h1; subst h1; exact k
        · rw [if_neg q] at h1; subst h1; exact k
      · refine lv_if_gt hexec hb hd htt (fun q => ?_) (fun q => ?_)
        · rw [if_pos q] at h1; subst h1; exact k
        · rw [if_neg q] at h1; subst h1; exact k
      · refine lv_if_le hexec hb hd htt (fun q => ?_) (fun q => ?_)
        · rw [if_pos q] at h1; subst h1; exact k
        · rw [if_neg q] at h1; subst h1; exact k
    · cases h
  · rename_i q off
    split at h
    · rename_i y x r
      cases hlen (fun _ _ _ _ q => by cases q)
      simp only [Option.some.injEq, Prod.mk.injEq] at h
      obtain ⟨h1, rfl⟩ := h
      have htt := ht off (Or.inr (Or.inr ⟨q, rfl⟩))
      cases q <;> simp only [ax_cmp, decide_eq_true_eq, Bool.not_eq_true', decide_eq_false_iff_not] at h1
      · refine lv_icmp_eq hexec hb hd htt (fun q => ?_) (fun q => ?_)
        · rw [if_pos q] at h1; subst h1; exact k
        · rw [if_neg q] at h1; subst h1; exact k
      · refine lv_icmp_ne hexec hb hd htt (fun q => ?_) (fun q => ?_)
        · rw [if_pos q] at h1; subst h1; exact k
        · rw [if_neg (fun z => z q)] at h1; subst h1; exact k
      · refine lv_icmp_lt hexec hb hd htt (fun q => ?_) (fun q => ?_)
        · rw [if_pos q] at h1; subst h1; exact k
        · rw [if_neg q] at h1; subst h1; exact k
      · refine lv_icmp_ge hexec hb hd htt (fun q => ?_) (fun q => ?_)
        · rw [if_pos q] at h1; subst h1; exact k
        · rw [if_neg q] at h1; subst h1; exact k
      · refine lv_icmp_gt hexec hb hd htt (fun q => ?_) (fun q => ?_)
        · rw [if_pos q] at h1; subst h1; exact k
        · rw [if_neg q] at h1; subst h1; exact k
      · refine lv_icmp_le hexec hb hd htt (fun q => ?_) (fun q => ?_)
        · rw [if_pos q] at h1; subst h1; exact k
        · rw [if_neg q] at h1; subst h1; exact k
    · cases h
  · rename_i d lo hi offs
    obtain ⟨s1, s2⟩ := hs d lo hi offs rfl
    split at h
    · rename_i x r
      split at h
      · rename_i hx
        cases h
        simp only [Bool.or_eq_true, decide_eq_true_eq] at hx
        exact lv_tableOut hexec hb hd hx (Int.toNat_of_nonneg s1).symm k
      · rename_i hx
        simp only [Bool.or_eq_true, decide_eq_true_eq, not_or] at hx
        split at h
        · rename_i off ho
          cases h
          exact lv_tableIn hexec hb hd hx.1 hx.2 ho (Int.toNat_of_nonneg (s2 off (Array.mem_of_getElem? ho))).symm k
        · cases h
    · cases h
  · cases h
end AX2
