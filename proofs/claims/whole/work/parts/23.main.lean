/-! THE ABSTRACT MACHINE IS SOUND: the whole of it -/
abbrev ax_P : Nat → Option ax_M := fun z => ax_prog[z]?
abbrev ax_run (xs : List Int32) : Nat → Nat → Nat → Nat → Nat → List (Option Value) → List Value → ax_W → Option (Outcome × ax_W) := ax_ex ax_P ax_kinds ax_kI ax_kJ xs
def ax_gr (w w' : ax_W) : Prop := w.length ≤ w'.length ∧ ax_sz w ≤ ax_sz w'
theorem ax_gr.refl (w : ax_W) : ax_gr w w := ⟨Nat.le_refl _, Nat.le_refl _⟩
theorem ax_gr.trans {a b c : ax_W} (h1 : ax_gr a b) (h2 : ax_gr b c) : ax_gr a c := ⟨Nat.le_trans h1.1 h2.1, Nat.le_trans h1.2 h2.2⟩
theorem ax_gr.set {w : ax_W} {i : Nat} {q q' : Nat × List Value} (hw : w[i]? = some q) (hc : ax_cs q' = ax_cs q) : ax_gr w (w.set i q') := ⟨by simp, by rw [ax_sz_set hw hc]; exact Nat.le_refl _⟩
theorem ax_gr.push (w : ax_W) (q : Nat × List Value) : ax_gr w (w ++ [q]) := ⟨by simp, by rw [ax_sz_push]; exact Nat.le_add_right _ _⟩
theorem ax_hp_grow {kinds : List (List Nat)} {kI : List Int32} {kJ : List Int64} {xs : List Int32} {en : ax_E} {st st' : List Value} {w w' : ax_W} (h : ax_hp kinds kI kJ xs en st w = some (st', w')) : ax_gr w w' := by
  unfold ax_hp at h
  split at h
  · obtain ⟨r, hr, e1⟩ := Option.map_eq_some_iff.mp h; cases e1; exact ax_gr.refl _
  · obtain ⟨r, hr, e1⟩ := Option.map_eq_some_iff.mp h; cases e1; exact ax_gr.refl _
  · obtain ⟨r, hr, e1⟩ := Option.map_eq_some_iff.mp h; cases e1; exact ax_gr.refl _
  · obtain ⟨r, hr, e1⟩ := Option.map_eq_some_iff.mp h; cases e1; exact ax_gr.refl _
  · obtain ⟨r, hr, e1⟩ := Option.map_eq_some_iff.mp h; cases e1; exact ax_gr.refl _
  · obtain ⟨r, hr, e1⟩ := Option.map_eq_some_iff.mp h; cases e1; exact ax_gr.refl _
  · obtain ⟨r, hr, e1⟩ := Option.map_eq_some_iff.mp h; cases e1; exact ax_gr.refl _
  · cases h; exact ax_gr.refl _
  · split at h
    · split at h
      · cases h; exact ax_gr.refl _
      · cases h
    · cases h; exact ax_gr.refl _
  · split at h
    · split at h
      · cases h; exact ax_gr.refl _
      · cases h
    · cases h; exact ax_gr.refl _
  · split at h
    · cases h; exact ax_gr.refl _
    · cases h
  · obtain ⟨x, j, i, r, w1, -, hr, er⟩ := ax_ast_inv h
    cases er
    obtain ⟨vs, hw, -, -, rfl⟩ := ax_wr_inv hr
    exact ax_gr.set hw (ax_cs_set _ _ _ _)
  · obtain ⟨x, j, i, r, w1, -, hr, er⟩ := ax_last_inv h
    cases er
    obtain ⟨vs, hw, -, -, rfl⟩ := ax_wr_inv hr
    exact ax_gr.set hw (ax_cs_set _ _ _ _)
  · obtain ⟨x, j, i, r, w1, -, -, -, hr, er⟩ := ax_cast_inv h
    cases er
    obtain ⟨vs, hw, -, -, rfl⟩ := ax_wr_inv hr
    exact ax_gr.set hw (ax_cs_set _ _ _ _)
  · obtain ⟨x, j, i, r, w1, -, -, -, hr, er⟩ := ax_cast_inv h
    cases er
    obtain ⟨vs, hw, -, -, rfl⟩ := ax_wr_inv hr
    exact ax_gr.set hw (ax_cs_set _ _ _ _)
  · obtain ⟨x, j, i, r, q, w1, -, -, hr, er⟩ := ax_aast_inv h
    cases er
    obtain ⟨vs, hw, -, -, rfl⟩ := ax_wr_inv hr
    exact ax_gr.set hw (ax_cs_set _ _ _ _)
  · split at h
    · split at h
      · obtain ⟨v, i, r, fs, -, -, hw, -, e1⟩ := ax_put_inv h
        cases e1
        exact ax_gr.set hw (ax_cs_set _ _ _ _)
      · cases h
    · cases h
  · unfold ax_new at h
    split at h
    · cases h; exact ax_gr.push _ _
    · cases h
  · split at h
    · obtain ⟨n, r, -, -, -, er⟩ := ax_newa_inv h
      cases er; exact ax_gr.push _ _
    · cases h
  · obtain ⟨n, r, -, -, -, er⟩ := ax_newa_inv h
    cases er; exact ax_gr.push _ _
  · cases h
theorem ax_step_grow {kinds : List (List Nat)} {kI : List Int32} {kJ : List Int64} {xs : List Int32} {en : ax_E} {pc pc' : Nat} {ls ls' : List (Option Value)} {st st' : List Value} {w w' : ax_W} (h : ax_step kinds kI kJ xs en pc ls st w = some (pc', ls', st', w')) : ax_gr w w' := by
  unfold ax_step at h
  split at h
  · cases h; exact ax_gr.refl _
  · split at h
    · cases h; exact ax_gr.refl _
    · split at h
      · cases h; exact ax_gr.refl _
      · split at h
        · rename_i h1
          cases h
          exact ax_hp_grow h1
        · cases h
theorem ax_spc_inv {fr lo a : Nat} {st st' : List Value} {w w' : ax_W} (h : ax_spc fr lo a st w = some (st', w')) :
    (a = 1000 ∧ ∃ i, st = .ref i :: st' ∧ w' = w ∧ 1 ≤ fr ∧ 30 ≤ lo ∧ (st'.map ax_wt).sum ≤ 8) ∨
    (a = 1001 ∧ ∃ k i t, st = .retAddr k :: .ref i :: st' ∧ w' = w.set i (t, []) ∧ 7 ≤ fr ∧ 200 ≤ lo ∧ (st'.map ax_wt).sum ≤ 8 ∧ 2 ≤ k ∧ w[i]? = some (t, ax_xf) ∧ (t = 9 ∨ t = 10)) ∨
    (a = 1002 ∧ 1 ≤ fr ∧ 100 ≤ lo ∧ (st.map ax_wt).sum ≤ 18 ∧ ax_cpy st w = some (st', w')) := by
  unfold ax_spc at h
  split at h
  · split at h
    · split at h
      · cases h
      · split at h
        · cases h
        · split at h
          · cases h
          · rename_i h1 h2 h3
            cases h
            exact Or.inl ⟨rfl, _, rfl, rfl, by omega, by omega, by omega⟩
    · cases h
  · split at h
    · split at h
      · cases h
      · split at h
        · cases h
        · split at h
          · cases h
          · split at h
            · cases h
            · rename_i h1 h2 h3 h4
              split at h
              · rename_i t fs hw
                split at h
                · rename_i hfs
                  subst hfs
                  split at h
                  · rename_i ht
                    cases h
                    exact Or.inr (Or.inl ⟨rfl, _, _, _, rfl, rfl, by omega, by omega, by omega, by omega, hw, Or.inl ht⟩)
                  · split at h
                    · rename_i ht
                      cases h
                      exact Or.inr (Or.inl ⟨rfl, _, _, _, rfl, rfl, by omega, by omega, by omega, by omega, hw, Or.inr ht⟩)
                    · cases h
                · cases h
              · cases h
    · cases h
  · split at h
    · cases h
    · split at h
      · cases h
      · split at h
        · cases h
        · rename_i h1 h2 h3
          exact Or.inr (Or.inr ⟨rfl, by omega, by omega, by omega, h⟩)
  · cases h
theorem ax_cpy_sz {st st' : List Value} {w w' : ax_W} (h : ax_cpy st w = some (st', w')) : w'.length = w.length ∧ ax_sz w' = ax_sz w := by
  obtain ⟨n, dp, b, sp, a, r, t, us, vs, -, -, hwb, ht, -, -, -, h4, h5, -, er⟩ := ax_cpy_inv h
  cases er
  refine ⟨by simp, ax_sz_set hwb ?_⟩
  rw [ax_cs_arr (by omega), ax_cs_arr (by omega)]
  simp
  omega
theorem ax_spc_sz {fr lo a : Nat} {st st' : List Value} {w w' : ax_W} (h : ax_spc fr lo a st w = some (st', w')) : w'.length = w.length ∧ ax_sz w' = ax_sz w := by
  rcases ax_spc_inv h with ⟨-, i, -, rfl, -⟩ | ⟨-, k, i, t, -, rfl, -, -, -, -, hw, ht⟩ | ⟨-, -, -, -, hc⟩
  · exact ⟨rfl, rfl⟩
  · refine ⟨by simp, ax_sz_set hw ?_⟩
    rcases ht with rfl | rfl <;> rfl
  · exact ax_cpy_sz hc
/-- what one call of the machine does, said at once: the road of a call -/
def ax_road (xs : List Int32) (f fr lo z pc : Nat) (ls : List (Option Value)) (st : List Value) (w : ax_W) (M : ax_M) (e : ax_E) : Option (Outcome × ax_W) :=
  if 1000 ≤ e.2.2.1 then
    match ax_spc fr lo e.2.2.1 st w with
    | some (st', w') => ax_run xs f fr lo z (pc + 3) ls st' w'
    | none => none
  else
    match ax_P e.2.2.1 with
    | none => none
    | some M' =>
      if fr = 0 then none else if lo < M'.2.1 + 19 then none else if st.length < e.2.2.2.1 % 100 then none else if 8 < ((st.drop (e.2.2.2.1 % 100)).map ax_wt).sum then none else if M'.2.1 < (ax_sl (st.take (e.2.2.2.1 % 100)).reverse).length then none else
      if ax_rcv (e.2.2.2.1 / 100) (st.take (e.2.2.2.1 % 100)).reverse w then
        match ax_run xs f (fr - 1) (lo - (M'.2.1 + 19)) e.2.2.1 0 (ax_ent (st.take (e.2.2.2.1 % 100)).reverse M'.2.1) [] w with
        | none => none
        | some (.returned v, w') => ax_run xs f fr lo z (pc + 3) ls (v.toList ++ st.drop (e.2.2.2.1 % 100)) w'
        | some (.threw i, w') =>
          match w'[i]? with
          | none => none
          | some (t, _) =>
            match ax_hdl M.2.2.2 pc t with
            | some h => ax_run xs f fr lo z h ls [.ref i] w'
            | none => if M.2.2.2.isEmpty then some (.threw i, w') else none
      else none
def ax_isinv (i : Instr) : Prop := (∃ idx, i = .invokevirtual idx) ∨ (∃ idx, i = .invokestatic idx) ∨ ∃ idx, i = .invokespecial idx
/-- one turn of the machine -/
theorem ax_turn {xs : List Int32} {f fr lo z pc : Nat} {ls : List (Option Value)} {st : List Value} {w : ax_W} {r : Outcome × ax_W} (h : ax_run xs (f + 1) fr lo z pc ls st w = some r) :
    ∃ M e, ax_prog[z]? = some M ∧ M.1[pc]? = some (some e) ∧
      ((∃ v, ax_ret M.2.2.1 e.1 st = some v ∧ r = (.returned v, w)) ∨ (∃ i t, e.1 = .athrow ∧ st = .ref i :: t ∧ M.2.2.2.isEmpty = true ∧ r = (.threw i, w)) ∨
       (ax_isinv e.1 ∧ ax_road xs f fr lo z pc ls st w M e = some r) ∨ (∃ pc' ls' st' w', ax_step ax_kinds ax_kI ax_kJ xs e pc ls st w = some (pc', ls', st', w') ∧ ax_run xs f fr lo z pc' ls' st' w' = some r)) := by
  unfold ax_run at h
  rw [ax_ex] at h
  simp only [ax_P] at h
  split at h
  · cases h
  · rename_i M hM
    split at h
    · rename_i e he
      refine ⟨M, e, hM, he, ?_⟩
      split at h
      · rename_i v hv
        cases h
        exact Or.inl ⟨v, hv, rfl⟩
      · split at h
        · rename_i hat
          split at h
          · split at h
            · rename_i hemp
              cases h
              exact Or.inr (Or.inl ⟨_, _, hat, rfl, hemp, rfl⟩)
            · cases h
          · cases h
        · rename_i idx hi
          exact Or.inr (Or.inr (Or.inl ⟨Or.inl ⟨idx, hi⟩, h⟩))
        · rename_i idx hi
          exact Or.inr (Or.inr (Or.inl ⟨Or.inr (Or.inl ⟨idx, hi⟩), h⟩))
        · rename_i idx hi
          exact Or.inr (Or.inr (Or.inl ⟨Or.inr (Or.inr ⟨idx, hi⟩), h⟩))
        · split at h
          · rename_i pc' ls' st' w' hs
            exact Or.inr (Or.inr (Or.inr ⟨pc', ls', st', w', hs, h⟩))
          · cases h
    · cases h
theorem ax_grow {xs : List Int32} : ∀ (f fr lo z pc : Nat) (ls : List (Option Value)) (st : List Value) (w : ax_W) (r : Outcome × ax_W), ax_run xs f fr lo z pc ls st w = some r → ax_gr w r.2 := by
  intro f
  induction f with
  | zero => intro fr lo z pc ls st w r h; cases h
  | succ f ih =>
    intro fr lo z pc ls st w r h
    obtain ⟨M, e, hM, he, hc⟩ := ax_turn h
    rcases hc with ⟨v, -, rfl⟩ | ⟨i, t, -, -, -, rfl⟩ | ⟨-, hr⟩ | ⟨pc', ls', st', w', hs, hr⟩
    · exact ax_gr.refl _
    · exact ax_gr.refl _
    · unfold ax_road at hr
      split at hr
      · split at hr
        · rename_i st' w' hs
          have := ax_spc_sz hs
          have h2 := ih _ _ _ _ _ _ _ _ hr
          exact ⟨by rw [← this.1]; exact h2.1, by rw [← this.2]; exact h2.2⟩
        · cases hr
      · split at hr
        · cases hr
        · split at hr
          · cases hr
          · split at hr
            · cases hr
            · split at hr
              · cases hr
              · split at hr
                · cases hr
                · split at hr
                  · cases hr
                  · split at hr
                    · split at hr
                      · cases hr
                      · rename_i v w' h1
                        exact (ih _ _ _ _ _ _ _ _ h1).trans (ih _ _ _ _ _ _ _ _ hr)
                      · rename_i i w' h1
                        have h0 := ih _ _ _ _ _ _ _ _ h1
                        split at hr
                        · cases hr
                        · split at hr
                          · exact h0.trans (ih _ _ _ _ _ _ _ _ hr)
                          · split at hr
                            · cases hr; exact h0
                            · cases hr
                    · cases hr
    · exact (ax_step_grow hs).trans (ih _ _ _ _ _ _ _ _ hr)
