/-! instructions on the operand stack, locals and branches: the abstract step is the machine's -/
def ax_Xr (X : Nat → Value) : Prop := ∀ k, ∃ a, X k = .ref a
def ax_L (B : Nat) (X : Nat → Value) (A : Array Slot) (n : Nat) (ls : List (Option Value)) : Prop := A.size = n ∧ lv_wf A ∧ ls.length = n ∧ ∀ (i : Nat) (v : Value), ls[i]? = some (some v) → A[i]? = some (.val (ax_v B X v))
theorem ax_ii_inv {f : Int32 → Int32 → Int32} {st st' : List Value} (h : ax_ii f st = some st') : ∃ x y r, st = .int y :: .int x :: r ∧ st' = .int (f x y) :: r := by
  unfold ax_ii at h; split at h
  · cases h; exact ⟨_, _, _, rfl, rfl⟩
  · cases h
theorem ax_iz_inv {f : Int32 → Int32 → Int32} {st st' : List Value} (h : ax_iz f st = some st') : ∃ x y r, ¬ y = 0 ∧ st = .int y :: .int x :: r ∧ st' = .int (f x y) :: r := by
  unfold ax_iz at h; split at h
  · split at h
    · cases h
    · rename_i hy; cases h; exact ⟨_, _, _, hy, rfl, rfl⟩
  · cases h
theorem ax_i1_inv {f : Int32 → Int32} {st st' : List Value} (h : ax_i1 f st = some st') : ∃ x r, st = .int x :: r ∧ st' = .int (f x) :: r := by
  unfold ax_i1 at h; split at h
  · cases h; exact ⟨_, _, rfl, rfl⟩
  · cases h
theorem ax_ll_inv {f : Int64 → Int64 → Int64} {st st' : List Value} (h : ax_ll f st = some st') : ∃ x y r, st = .long y :: .long x :: r ∧ st' = .long (f x y) :: r := by
  unfold ax_ll at h; split at h
  · cases h; exact ⟨_, _, _, rfl, rfl⟩
  · cases h
theorem ax_lz_inv {f : Int64 → Int64 → Int64} {st st' : List Value} (h : ax_lz f st = some st') : ∃ x y r, ¬ y = 0 ∧ st = .long y :: .long x :: r ∧ st' = .long (f x y) :: r := by
  unfold ax_lz at h; split at h
  · split at h
    · cases h
    · rename_i hy; cases h; exact ⟨_, _, _, hy, rfl, rfl⟩
  · cases h
theorem ax_l1_inv {f : Int64 → Int64} {st st' : List Value} (h : ax_l1 f st = some st') : ∃ x r, st = .long x :: r ∧ st' = .long (f x) :: r := by
  unfold ax_l1 at h; split at h
  · cases h; exact ⟨_, _, rfl, rfl⟩
  · cases h
theorem ax_li_inv {f : Int64 → Int32 → Int64} {st st' : List Value} (h : ax_li f st = some st') : ∃ x y r, st = .int y :: .long x :: r ∧ st' = .long (f x y) :: r := by
  unfold ax_li at h; split at h
  · cases h; exact ⟨_, _, _, rfl, rfl⟩
  · cases h
theorem ax_i2l_inv {st st' : List Value} (h : ax_i2l st = some st') : ∃ x r, st = .int x :: r ∧ st' = .long x.toInt64 :: r := by
  unfold ax_i2l at h; split at h
  · cases h; exact ⟨_, _, rfl, rfl⟩
  · cases h
theorem ax_l2i_inv {st st' : List Value} (h : ax_l2i st = some st') : ∃ x r, st = .long x :: r ∧ st' = .int x.toInt32 :: r := by
  unfold ax_l2i at h; split at h
  · cases h; exact ⟨_, _, rfl, rfl⟩
  · cases h
theorem ax_lc_inv {st st' : List Value} (h : ax_lc st = some st') : ∃ x y r, st = .long y :: .long x :: r ∧ st' = .int (lg_cmp x y) :: r := by
  unfold ax_lc at h; split at h
  · cases h; exact ⟨_, _, _, rfl, rfl⟩
  · cases h
theorem ax_lI_inv {o : Option (Option Value)} {st st' : List Value} (h : ax_lI o st = some st') : ∃ x, o = some (some (.int x)) ∧ st' = .int x :: st := by
  unfold ax_lI at h; split at h
  · cases h; exact ⟨_, rfl, rfl⟩
  · cases h
theorem ax_lL_inv {o : Option (Option Value)} {st st' : List Value} (h : ax_lL o st = some st') : ∃ x, o = some (some (.long x)) ∧ st' = .long x :: st := by
  unfold ax_lL at h; split at h
  · cases h; exact ⟨_, rfl, rfl⟩
  · cases h
theorem ax_lA_inv {o : Option (Option Value)} {st st' : List Value} (h : ax_lA o st = some st') : ∃ v, o = some (some v) ∧ st' = v :: st ∧ (v = .null ∨ (∃ x, v = .ref x) ∨ ∃ k, v = .retAddr k) := by
  unfold ax_lA at h; split at h
  · cases h; exact ⟨_, rfl, rfl, Or.inr (Or.inl ⟨_, rfl⟩)⟩
  · cases h; exact ⟨_, rfl, rfl, Or.inr (Or.inr ⟨_, rfl⟩)⟩
  · cases h; exact ⟨_, rfl, rfl, Or.inl rfl⟩
  · cases h
theorem ax_c1_cat {X : Nat → Value} (hX : ax_Xr X) (B : Nat) {v : Value} (h : ax_c1 v = true) : (ax_v B X v).category = 1 := by
  cases v with
  | retAddr k => obtain ⟨a, ha⟩ := hX k; simp [ax_v, ha, Value.category]
  | long x => cases h
  | double x => cases h
  | _ => rfl
theorem ax_dup_inv {st st' : List Value} (h : ax_dup st = some st') : ∃ v r, ax_c1 v = true ∧ st = v :: r ∧ st' = v :: v :: r := by
  unfold ax_dup at h; split at h
  · split at h
    · rename_i hv; cases h; exact ⟨_, _, hv, rfl, rfl⟩
    · cases h
  · cases h
theorem ax_pop_inv {st st' : List Value} (h : ax_pop st = some st') : ∃ v r, ax_c1 v = true ∧ st = v :: r ∧ st' = r := by
  unfold ax_pop at h; split at h
  · split at h
    · rename_i hv; cases h; exact ⟨_, _, hv, rfl, rfl⟩
    · cases h
  · cases h
theorem ax_dup2_inv {st st' : List Value} (h : ax_dup2 st = some st') : (∃ x r, st = .long x :: r ∧ st' = .long x :: .long x :: r) ∨ ∃ v u r, ax_c1 v = true ∧ ax_c1 u = true ∧ st = v :: u :: r ∧ st' = v :: u :: v :: u :: r := by
  unfold ax_dup2 at h; split at h
  · cases h; exact Or.inl ⟨_, _, rfl, rfl⟩
  · split at h
    · rename_i hv; cases h
      simp only [Bool.and_eq_true] at hv
      exact Or.inr ⟨_, _, _, hv.1, hv.2, rfl, rfl⟩
    · cases h
  · cases h
theorem ax_pop2_inv {st st' : List Value} (h : ax_pop2 st = some st') : (∃ x r, st = .long x :: r ∧ st' = r) ∨ ∃ v u r, ax_c1 v = true ∧ ax_c1 u = true ∧ st = v :: u :: r ∧ st' = r := by
  unfold ax_pop2 at h; split at h
  · cases h; exact Or.inl ⟨_, _, rfl, rfl⟩
  · split at h
    · rename_i hv; cases h
      simp only [Bool.and_eq_true] at hv
      exact Or.inr ⟨_, _, _, hv.1, hv.2, rfl, rfl⟩
    · cases h
  · cases h
section AX1
variable {p : Program} {l : Launch} {e : Env} {R : Room} {s : State} {m : MethodId} {args : Array Value} {below : List Frame} {meth : Method} {c : Code} {H : Heap} {locs : List Loc} {cells slots : Nat} {Q : State → Prop}
variable {cc : ByteArray} {pc n : Nat} {A : Array Slot} {B : Nat} {X : Nat → Value} {ls : List (Option Value)} {st st' : List Value} {i : Instr}
theorem ax_aload_ok (hX : ax_Xr X) (hexec : p.tables.exec = Jvm.exec) (hb : c.code = cc) (hL : ax_L B X A n ls) {k : Nat} (hd : decode cc pc = .ok (.aload k, 2)) (h : ax_lA ls[k]? st = some st')
    (kk : W p l e R s m args below meth c H locs cells slots Q (F0 m (pc + 2) A (st'.map (ax_v B X)))) : W p l e R s m args below meth c H locs cells slots Q (F0 m pc A (st.map (ax_v B X))) := by
  obtain ⟨v, hv, rfl, hc⟩ := ax_lA_inv h
  have hA := hL.2.2.2 _ _ hv
  rcases hc with rfl | ⟨x, rfl⟩ | ⟨x, rfl⟩
  · exact lv_aloadN hexec hb hd hA kk
  · exact lv_aload hexec hb hd hA kk
  · obtain ⟨a, ha⟩ := hX x
    simp only [ax_v, List.map_cons, ha] at hA kk
    exact lv_aload hexec hb hd hA kk
theorem ax_aload_n_ok (hX : ax_Xr X) (hexec : p.tables.exec = Jvm.exec) (hb : c.code = cc) (hL : ax_L B X A n ls) {k : Fin 4} (hd : decode cc pc = .ok (.aload_n k, 1)) (h : ax_lA ls[(k : Nat)]? st = some st')
    (kk : W p l e R s m args below meth c H locs cells slots Q (F0 m (pc + 1) A (st'.map (ax_v B X)))) : W p l e R s m args below meth c H locs cells slots Q (F0 m pc A (st.map (ax_v B X))) := by
  obtain ⟨v, hv, rfl, hc⟩ := ax_lA_inv h
  have hA := hL.2.2.2 _ _ hv
  rcases hc with rfl | ⟨x, rfl⟩ | ⟨x, rfl⟩
  · exact lv_aload_nN hexec hb hd rfl hA kk
  · exact lv_aload_n hexec hb hd rfl hA kk
  · obtain ⟨a, ha⟩ := hX x
    simp only [ax_v, List.map_cons, ha] at hA kk
    exact lv_aload_n hexec hb hd rfl hA kk
theorem ax_st_ok (hX : ax_Xr X) (hexec : p.tables.exec = Jvm.exec) (hb : c.code = cc) (hL : ax_L B X A n ls) (hd : decode cc pc = .ok (i, ax_len i)) (h : ax_st i ls st = some st')
    (k : W p l e R s m args below meth c H locs cells slots Q (F0 m (pc + ax_len i) A (st'.map (ax_v B X)))) : W p l e R s m args below meth c H locs cells slots Q (F0 m pc A (st.map (ax_v B X))) := by
  unfold ax_st at h
  split at h
  · cases h; exact lv_iconst hexec hb hd rfl k
  · cases h; exact lv_bipush hexec hb hd rfl k
  · cases h; exact lv_sipush hexec hb hd rfl k
  · cases h; exact lv_lconst hexec hb hd rfl k
  · obtain ⟨x, hx, rfl⟩ := ax_lI_inv h; exact lv_iload hexec hb hd (hL.2.2.2 _ _ hx) k
  · obtain ⟨x, hx, rfl⟩ := ax_lI_inv h; exact lv_iload_n hexec hb hd rfl (hL.2.2.2 _ _ hx) k
  · obtain ⟨x, hx, rfl⟩ := ax_lL_inv h; exact lv_lload hexec hb hd (hL.2.2.2 _ _ hx) k
  · obtain ⟨x, hx, rfl⟩ := ax_lL_inv h; exact lv_lload_n hexec hb hd rfl (hL.2.2.2 _ _ hx) k
  · exact ax_aload_ok hX hexec hb hL hd h k
  · exact ax_aload_n_ok hX hexec hb hL hd h k
  · obtain ⟨x, y, r, rfl, rfl⟩ := ax_ii_inv h; exact lv_iadd hexec hb hd k
  · obtain ⟨x, y, r, rfl, rfl⟩ := ax_ii_inv h; exact lv_isub hexec hb hd k
  · obtain ⟨x, y, r, rfl, rfl⟩ := ax_ii_inv h; exact lv_imul hexec hb hd k
  · obtain ⟨x, y, r, rfl, rfl⟩ := ax_ii_inv h; exact lv_iand hexec hb hd k
  · obtain ⟨x, y, r, rfl, rfl⟩ := ax_ii_inv h; exact lv_ixor hexec hb hd k
  · obtain ⟨x, y, r, hy, rfl, rfl⟩ := ax_iz_inv h; exact lv_idiv hexec hb hd hy k
  · obtain ⟨x, y, r, hy, rfl, rfl⟩ := ax_iz_inv h; exact lv_irem hexec hb hd hy k
  · obtain ⟨x, r, rfl, rfl⟩ := ax_i1_inv h; exact lv_ineg hexec hb hd k
  · obtain ⟨x, y, r, rfl, rfl⟩ := ax_ii_inv h; exact lv_ishl hexec hb hd k
  · obtain ⟨x, y, r, rfl, rfl⟩ := ax_ii_inv h; exact lv_ishr hexec hb hd k
  · obtain ⟨x, y, r, rfl, rfl⟩ := ax_ii_inv h; exact lv_iushr hexec hb hd rfl k
  · obtain ⟨x, y, r, rfl, rfl⟩ := ax_ll_inv h; exact lv_ladd hexec hb hd k
  · obtain ⟨x, y, r, rfl, rfl⟩ := ax_ll_inv h; exact lv_lsub hexec hb hd k
  · obtain ⟨x, y, r, rfl, rfl⟩ := ax_ll_inv h; exact lv_lmul hexec hb hd k
  · obtain ⟨x, y, r, rfl, rfl⟩ := ax_ll_inv h; exact lv_land hexec hb hd k
  · obtain ⟨x, y, r, rfl, rfl⟩ := ax_ll_inv h; exact lv_lor hexec hb hd k
  · obtain ⟨x, y, r, hy, rfl, rfl⟩ := ax_lz_inv h; exact lv_ldiv hexec hb hd hy k
  · obtain ⟨x, y, r, hy, rfl, rfl⟩ := ax_lz_inv h; exact lv_lrem hexec hb hd hy k
  · obtain ⟨x, r, rfl, rfl⟩ := ax_l1_inv h; exact lv_lneg hexec hb hd k
  · obtain ⟨x, y, r, rfl, rfl⟩ := ax_li_inv h; exact lv_lshl hexec hb hd rfl k
  · obtain ⟨x, y, r, rfl, rfl⟩ := ax_li_inv h; exact lv_lshr hexec hb hd rfl k
  · obtain ⟨x, y, r, rfl, rfl⟩ := ax_li_inv h; exact lv_lushr hexec hb hd rfl k
  · obtain ⟨x, r, rfl, rfl⟩ := ax_i2l_inv h; exact lv_i2l hexec hb hd rfl k
  · obtain ⟨x, r, rfl, rfl⟩ := ax_l2i_inv h; exact lv_l2i hexec hb hd rfl k
  · obtain ⟨x, r, rfl, rfl⟩ := ax_i1_inv h; exact lv_i2c hexec hb hd rfl k
  · obtain ⟨x, y, r, rfl, rfl⟩ := ax_lc_inv h; exact W.lcmp hexec hb hd k
  · obtain ⟨v, r, hv, rfl, rfl⟩ := ax_dup_inv h; exact lv_dup hexec hb hd (ax_c1_cat hX B hv) k
  · rcases ax_dup2_inv h with ⟨x, r, rfl, rfl⟩ | ⟨v, u, r, hv, hu, rfl, rfl⟩
    · exact lv_dup2_2 hexec hb hd rfl k
    · exact lv_dup2_11 hexec hb hd (ax_c1_cat hX B hv) (ax_c1_cat hX B hu) k
  · obtain ⟨v, r, hv, rfl, rfl⟩ := ax_pop_inv h; exact lv_pop hexec hb hd (ax_c1_cat hX B hv) k
  · rcases ax_pop2_inv h with ⟨x, r, rfl, rfl⟩ | ⟨v, u, r, hv, hu, rfl, rfl⟩
    · exact lv_pop2_2 (va := .long x) hexec hb hd rfl k
    · exact lv_pop2_11 hexec hb hd (ax_c1_cat hX B hv) (ax_c1_cat hX B hu) k
  · cases h
/-- the listed locals, as the kit lists them -/
def ax_asc (B : Nat) (X : Nat → Value) (ls : List (Option Value)) : List (Nat × Value) := (List.range ls.length).filterMap (fun i => match ls[i]? with
  | some (some v) => some (i, ax_v B X v)
  | _ => none)
theorem ax_asc_mem {q : Nat × Value} : q ∈ ax_asc B X ls ↔ ∃ v, ls[q.1]? = some (some v) ∧ q.2 = ax_v B X v := by
  unfold ax_asc
  rw [List.mem_filterMap]
  constructor
  · rintro ⟨i, -, h⟩
    split at h
    · rename_i v hv; cases h; exact ⟨v, hv, rfl⟩
    · cases h
  · rintro ⟨v, hv, hq⟩
    have hlt : q.1 < ls.length := (List.getElem?_eq_some_iff.mp hv).1
    refine ⟨q.1, List.mem_range.mpr hlt, ?_⟩
    rw [hv]
    show some (q.1, ax_v B X v) = some q
    rw [← hq]
theorem ax_L.has (h : ax_L B X A n ls) : lv_has A n (ax_asc B X ls) := ⟨h.1, h.2.1, fun q hq => by
  obtain ⟨v, hv, e⟩ := ax_asc_mem.mp hq
  rw [e]; exact h.2.2.2 _ _ hv⟩
theorem ax_c1_not {v : Value} (hX : ax_Xr X) (h : ¬ ax_c1 v = true) : (ax_v B X v).category = 2 := by
  cases v with
  | long x => rfl
  | double x => rfl
  | _ => exact absurd rfl h
theorem ax_clr_get (ls : List (Option Value)) (k i : Nat) {v : Value} (h : (ax_clr ls k)[i]? = some (some v)) : ls[i]? = some (some v) ∧ (i + 1 = k → ax_c1 v = true) := by
  unfold ax_clr at h
  cases k with
  | zero => exact ⟨h, fun q => by omega⟩
  | succ j =>
    simp only at h
    split at h
    · rename_i u hu
      split at h
      · rename_i hc
        refine ⟨h, fun q => ?_⟩
        have : i = j := by omega
        subst this
        rw [hu] at h; cases h; exact hc
      · rename_i hc
        by_cases hij : i = j
        · subst hij
          rw [List.getElem?_set_self (List.getElem?_eq_some_iff.mp hu).1] at h
          cases h
        · rw [List.getElem?_set_ne (fun q => hij q.symm)] at h
          exact ⟨h, fun q => by omega⟩
    · rename_i hno
      refine ⟨h, fun q => ?_⟩
      have : i = j := by omega
      subst this
      exact absurd h (hno v)
theorem ax_clr_len (ls : List (Option Value)) (k : Nat) : (ax_clr ls k).length = ls.length := by
  unfold ax_clr
  cases k with
  | zero => rfl
  | succ j =>
    simp only
    split
    · split <;> simp
    · rfl
theorem ax_L.set1 (hX : ax_Xr X) (h : ax_L B X A n ls) {k : Nat} {v : Value} {A' : Array Slot}
    (h' : lv_has A' n ((k, ax_v B X v) :: (ax_asc B X ls).filter (fun q => !(q.1 == k) && !(q.1 + 1 == k && q.2.category == 2)))) : ax_L B X A' n (ax_set1 ls k v) := by
  refine ⟨h'.1, h'.2.1, by simp [ax_set1, ax_clr_len, h.2.2.1], fun i u hu => ?_⟩
  unfold ax_set1 at hu
  by_cases hik : i = k
  · subst hik
    have hlt : i < (ax_clr ls i).length := by
      have := (List.getElem?_eq_some_iff.mp hu).1
      simpa using this
    rw [List.getElem?_set_self hlt] at hu
    cases hu
    exact h'.2.2 (i, ax_v B X v) (List.mem_cons_self ..)
  · rw [List.getElem?_set_ne (fun q => hik q.symm)] at hu
    obtain ⟨h1, h2⟩ := ax_clr_get ls k i hu
    refine h'.2.2 (i, ax_v B X u) (List.mem_cons_of_mem _ (List.mem_filter.mpr ⟨ax_asc_mem.mpr ⟨u, h1, rfl⟩, ?_⟩))
    by_cases hk : i + 1 = k
    · have := ax_c1_cat hX B (h2 hk)
      simp [hik, this]
    · simp [hik, hk]
theorem ax_L.set2 (hX : ax_Xr X) (h : ax_L B X A n ls) {k : Nat} {v : Value} {A' : Array Slot}
    (h' : lv_has A' n ((k, ax_v B X v) :: (ax_asc B X ls).filter (fun q => !(q.1 == k) && (!(q.1 == k + 1) && !(q.1 + 1 == k && q.2.category == 2))))) : ax_L B X A' n (ax_set2 ls k v) := by
  refine ⟨h'.1, h'.2.1, by simp [ax_set2, ax_clr_len, h.2.2.1], fun i u hu => ?_⟩
  unfold ax_set2 at hu
  by_cases hik1 : i = k + 1
  · subst hik1
    have hlt := (List.getElem?_eq_some_iff.mp hu).1
    rw [List.getElem?_set_self (by simpa using hlt)] at hu
    cases hu
  · rw [List.getElem?_set_ne (fun q => hik1 q.symm)] at hu
    by_cases hik : i = k
    · subst hik
      have hlt : i < (ax_clr ls i).length := by
        have := (List.getElem?_eq_some_iff.mp hu).1
        simpa using this
      rw [List.getElem?_set_self hlt] at hu
      cases hu
      exact h'.2.2 (i, ax_v B X v) (List.mem_cons_self ..)
    · rw [List.getElem?_set_ne (fun q => hik q.symm)] at hu
      obtain ⟨h1, h2⟩ := ax_clr_get ls k i hu
      refine h'.2.2 (i, ax_v B X u) (List.mem_cons_of_mem _ (List.mem_filter.mpr ⟨ax_asc_mem.mpr ⟨u, h1, rfl⟩, ?_⟩))
      by_cases hk : i + 1 = k
      · have := ax_c1_cat hX B (h2 hk)
        simp [hik, hik1, this]
      · simp [hik, hik1, hk]
end AX1
