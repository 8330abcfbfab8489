/-! REASONING ABOUT THE ABSTRACT MACHINE: it comes to an end, whatever the fuel -/
def ax_noret (i : Instr) : Prop := i ≠ .return_ ∧ i ≠ .ireturn ∧ i ≠ .lreturn ∧ i ≠ .areturn
theorem ax_ret_none {i : Instr} (h : ax_noret i) (rk : Nat) (st : List Value) : ax_ret rk i st = none := by
  unfold ax_ret
  split
  · exact absurd rfl h.1
  · exact absurd rfl h.2.1
  · exact absurd rfl h.2.2.1
  · exact absurd rfl h.2.2.2
  · rfl
theorem ax_step_noret {kinds : List (List Nat)} {kI : List Int32} {kJ : List Int64} {xs : List Int32} {e : ax_E} {pc : Nat} {ls : List (Option Value)} {st : List Value} {w : ax_W} {r : Nat × List (Option Value) × List Value × ax_W} (h : ax_step kinds kI kJ xs e pc ls st w = some r) :
    ax_noret e.1 ∧ e.1 ≠ .athrow ∧ ¬ ax_isinv e.1 := by
  obtain ⟨i, len, a, b, j⟩ := e
  have key : ∀ i, (ax_st i ls st = none ∧ ax_sto i ls st = none ∧ ax_br i a (pc + len) pc st = none ∧ ax_hp kinds kI kJ xs (i, len, a, b, j) st w = none) → ax_step kinds kI kJ xs (i, len, a, b, j) pc ls st w = none := by
    intro i h
    unfold ax_step
    rw [h.1]
    simp only
    rw [h.2.1]
    simp only
    rw [h.2.2.1]
    simp only
    rw [h.2.2.2]
  refine ⟨⟨?_, ?_, ?_, ?_⟩, ?_, ?_⟩
  · intro q; simp only at q; subst q; rw [key _ ⟨rfl, rfl, rfl, rfl⟩] at h; cases h
  · intro q; simp only at q; subst q; rw [key _ ⟨rfl, rfl, rfl, rfl⟩] at h; cases h
  · intro q; simp only at q; subst q; rw [key _ ⟨rfl, rfl, rfl, rfl⟩] at h; cases h
  · intro q; simp only at q; subst q; rw [key _ ⟨rfl, rfl, rfl, rfl⟩] at h; cases h
  · intro q; simp only at q; subst q; rw [key _ ⟨rfl, rfl, rfl, rfl⟩] at h; cases h
  · rintro (⟨idx, q⟩ | ⟨idx, q⟩ | ⟨idx, q⟩)
    · simp only at q; subst q; rw [key _ ⟨rfl, rfl, rfl, rfl⟩] at h; cases h
    · simp only at q; subst q; rw [key _ ⟨rfl, rfl, rfl, rfl⟩] at h; cases h
    · simp only at q; subst q; rw [key _ ⟨rfl, rfl, rfl, rfl⟩] at h; cases h
/-- the other way round than ax_turn -/
theorem ax_back {xs : List Int32} {f fr lo z pc : Nat} {ls : List (Option Value)} {st : List Value} {w : ax_W} {r : Outcome × ax_W} {M : ax_M} {e : ax_E} (hM : ax_prog[z]? = some M) (he : M.1[pc]? = some (some e))
    (h : (∃ v, ax_ret M.2.2.1 e.1 st = some v ∧ r = (.returned v, w)) ∨ (∃ i t, e.1 = .athrow ∧ st = .ref i :: t ∧ M.2.2.2.isEmpty = true ∧ r = (.threw i, w)) ∨
       (ax_isinv e.1 ∧ ax_road xs f fr lo z pc ls st w M e = some r) ∨ (∃ pc' ls' st' w', ax_step ax_kinds ax_kI ax_kJ xs e pc ls st w = some (pc', ls', st', w') ∧ ax_run xs f fr lo z pc' ls' st' w' = some r)) :
    ax_run xs (f + 1) fr lo z pc ls st w = some r := by
  unfold ax_run
  rw [ax_ex]
  simp only [ax_P, hM, he]
  rcases h with ⟨v, hv, rfl⟩ | ⟨i, t, hi, rfl, hemp, rfl⟩ | ⟨hinv, hr⟩ | ⟨pc', ls', st', w', hs, hr⟩
  · rw [hv]
  · rw [hi, ax_ret_none ⟨by simp, by simp, by simp, by simp⟩]
    simp only [hemp, if_true]
  · rcases hinv with ⟨idx, hi⟩ | ⟨idx, hi⟩ | ⟨idx, hi⟩
    · rw [hi, ax_ret_none ⟨by simp, by simp, by simp, by simp⟩]
      exact hr
    · rw [hi, ax_ret_none ⟨by simp, by simp, by simp, by simp⟩]
      exact hr
    · rw [hi, ax_ret_none ⟨by simp, by simp, by simp, by simp⟩]
      exact hr
  · obtain ⟨h1, h2, h3⟩ := ax_step_noret hs
    rw [ax_ret_none h1]
    simp only
    split
    · rename_i q; exact absurd q h2
    · rename_i idx q; exact absurd (Or.inl ⟨idx, q⟩) h3
    · rename_i idx q; exact absurd (Or.inr (Or.inl ⟨idx, q⟩)) h3
    · rename_i idx q; exact absurd (Or.inr (Or.inr ⟨idx, q⟩)) h3
    · rw [hs]
      exact hr
theorem ax_more {xs : List Int32} : ∀ (f fr lo z pc : Nat) (ls : List (Option Value)) (st : List Value) (w : ax_W) (r : Outcome × ax_W), ax_run xs f fr lo z pc ls st w = some r → ax_run xs (f + 1) fr lo z pc ls st w = some r := by
  intro f
  induction f with
  | zero => intro fr lo z pc ls st w r h; cases h
  | succ f ih =>
    intro fr lo z pc ls st w r h
    obtain ⟨M, e, hM, he, hc⟩ := ax_turn h
    refine ax_back hM he ?_
    rcases hc with hc | hc | ⟨hinv, hr⟩ | ⟨pc', ls', st', w', hs, hr⟩
    · exact Or.inl hc
    · exact Or.inr (Or.inl hc)
    · refine Or.inr (Or.inr (Or.inl ⟨hinv, ?_⟩))
      unfold ax_road at hr ⊢
      split at hr
      · rename_i h1
        rw [if_pos h1]
        split at hr
        · exact ih _ _ _ _ _ _ _ _ hr
        · cases hr
      · rename_i h1
        rw [if_neg h1]
        split at hr
        · cases hr
        · split at hr
          · cases hr
          · rename_i h2
            rw [if_neg h2]
            split at hr
            · cases hr
            · rename_i h3
              rw [if_neg h3]
              split at hr
              · cases hr
              · rename_i h4
                rw [if_neg h4]
                split at hr
                · cases hr
                · rename_i h5
                  rw [if_neg h5]
                  split at hr
                  · cases hr
                  · rename_i h6
                    rw [if_neg h6]
                    split at hr
                    · rename_i h7
                      rw [if_pos h7]
                      split at hr
                      · cases hr
                      · rename_i h8
                        rw [ih _ _ _ _ _ _ _ _ h8]
                        exact ih _ _ _ _ _ _ _ _ hr
                      · rename_i h8
                        rw [ih _ _ _ _ _ _ _ _ h8]
                        simp only
                        split at hr
                        · cases hr
                        · split at hr
                          · exact ih _ _ _ _ _ _ _ _ hr
                          · exact hr
                    · cases hr
    · exact Or.inr (Or.inr (Or.inr ⟨pc', ls', st', w', hs, ih _ _ _ _ _ _ _ _ hr⟩))
theorem ax_moreN {xs : List Int32} {f fr lo z pc : Nat} {ls : List (Option Value)} {st : List Value} {w : ax_W} {r : Outcome × ax_W} (k : Nat) (h : ax_run xs f fr lo z pc ls st w = some r) : ax_run xs (f + k) fr lo z pc ls st w = some r := by
  induction k with
  | zero => exact h
  | succ k ih => exact ax_more _ _ _ _ _ _ _ _ _ ih
/-- the machine comes to this end -/
def ax_Ok (xs : List Int32) (fr lo z pc : Nat) (ls : List (Option Value)) (st : List Value) (w : ax_W) (o : Outcome) (w' : ax_W) : Prop := ∃ f, ax_run xs f fr lo z pc ls st w = some (o, w')
section OK
variable {xs : List Int32} {fr lo z pc : Nat} {ls : List (Option Value)} {st : List Value} {w w' : ax_W} {o : Outcome}
theorem ok_ret {M : ax_M} {e : ax_E} (hM : ax_prog[z]? = some M) (he : M.1[pc]? = some (some e)) {v : Option Value} (hv : ax_ret M.2.2.1 e.1 st = some v) : ax_Ok xs fr lo z pc ls st w (.returned v) w := ⟨1, ax_back hM he (Or.inl ⟨v, hv, rfl⟩)⟩
theorem ok_throw {M : ax_M} {e : ax_E} (hM : ax_prog[z]? = some M) (he : M.1[pc]? = some (some e)) {i : Nat} {t : List Value} (hi : e.1 = .athrow) (hemp : M.2.2.2.isEmpty = true) : ax_Ok xs fr lo z pc ls (.ref i :: t) w (.threw i) w := ⟨1, ax_back hM he (Or.inr (Or.inl ⟨i, t, hi, rfl, hemp, rfl⟩))⟩
theorem ok_step {M : ax_M} {e : ax_E} (hM : ax_prog[z]? = some M) (he : M.1[pc]? = some (some e)) {pc' : Nat} {ls' : List (Option Value)} {st' : List Value} {w1 : ax_W} (hs : ax_step ax_kinds ax_kI ax_kJ xs e pc ls st w = some (pc', ls', st', w1)) (k : ax_Ok xs fr lo z pc' ls' st' w1 o w') : ax_Ok xs fr lo z pc ls st w o w' := by
  obtain ⟨f, hf⟩ := k
  exact ⟨f + 1, ax_back hM he (Or.inr (Or.inr (Or.inr ⟨_, _, _, _, hs, hf⟩)))⟩
theorem ok_spc {M : ax_M} {e : ax_E} (hM : ax_prog[z]? = some M) (he : M.1[pc]? = some (some e)) (hinv : ax_isinv e.1) (h1 : 1000 ≤ e.2.2.1) {st' : List Value} {w1 : ax_W} (hs : ax_spc fr lo e.2.2.1 st w = some (st', w1)) (k : ax_Ok xs fr lo z (pc + 3) ls st' w1 o w') : ax_Ok xs fr lo z pc ls st w o w' := by
  obtain ⟨f, hf⟩ := k
  refine ⟨f + 1, ax_back hM he (Or.inr (Or.inr (Or.inl ⟨hinv, ?_⟩)))⟩
  unfold ax_road
  rw [if_pos h1, hs]
  exact hf
/-- a call that returns: as the callee's values, st = as.reverse ++ rest -/
theorem ok_call {M M' : ax_M} {e : ax_E} (hM : ax_prog[z]? = some M) (he : M.1[pc]? = some (some e)) (hinv : ax_isinv e.1) {zc b : Nat} (hz : e.2.2.1 = zc) (hb : e.2.2.2.1 = b) (h1 : zc < 1000) (hM' : ax_prog[zc]? = some M') (hfr : 1 ≤ fr) (hlo : M'.2.1 + 19 ≤ lo)
    {as rest : List Value} (hst : st = as.reverse ++ rest) (hn : as.length = b % 100) (hwt : (rest.map ax_wt).sum ≤ 8) (hsl : (ax_sl as).length ≤ M'.2.1) (hrc : ax_rcv (b / 100) as w = true) {v : Option Value} {w1 : ax_W}
    (hc : ax_Ok xs (fr - 1) (lo - (M'.2.1 + 19)) zc 0 (ax_ent as M'.2.1) [] w (.returned v) w1) (k : ax_Ok xs fr lo z (pc + 3) ls (v.toList ++ rest) w1 o w') : ax_Ok xs fr lo z pc ls st w o w' := by
  obtain ⟨f1, hf1⟩ := hc
  obtain ⟨f2, hf2⟩ := k
  refine ⟨f1 + f2 + 1, ax_back hM he (Or.inr (Or.inr (Or.inl ⟨hinv, ?_⟩)))⟩
  subst hst
  have ht : ((as.reverse ++ rest).take (b % 100)).reverse = as := by
    rw [List.take_append_of_le_length (by simp; omega), List.take_of_length_le (by simp; omega), List.reverse_reverse]
  have hd : (as.reverse ++ rest).drop (b % 100) = rest := by
    rw [List.drop_append_of_le_length (by simp; omega), List.drop_eq_nil_of_le (by simp; omega), List.nil_append]
  unfold ax_road
  rw [hz, hb, if_neg (by omega)]
  simp only [ax_P, hM']
  rw [if_neg (by omega), if_neg (by omega), if_neg (by simp; omega), hd, ht, if_neg (by omega), if_neg (by omega), hrc, if_pos rfl, ax_moreN f2 hf1]
  simp only
  have := ax_moreN f1 hf2
  rw [Nat.add_comm] at this
  exact this
/-- a call that throws, and no handler here -/
theorem ok_callT {M M' : ax_M} {e : ax_E} (hM : ax_prog[z]? = some M) (he : M.1[pc]? = some (some e)) (hinv : ax_isinv e.1) {zc b : Nat} (hz : e.2.2.1 = zc) (hb : e.2.2.2.1 = b) (h1 : zc < 1000) (hM' : ax_prog[zc]? = some M') (hfr : 1 ≤ fr) (hlo : M'.2.1 + 19 ≤ lo)
    {as rest : List Value} (hst : st = as.reverse ++ rest) (hn : as.length = b % 100) (hwt : (rest.map ax_wt).sum ≤ 8) (hsl : (ax_sl as).length ≤ M'.2.1) (hrc : ax_rcv (b / 100) as w = true) {i t : Nat} {q : List Value} {w1 : ax_W}
    (hc : ax_Ok xs (fr - 1) (lo - (M'.2.1 + 19)) zc 0 (ax_ent as M'.2.1) [] w (.threw i) w1) (hi : w1[i]? = some (t, q)) (hemp : M.2.2.2 = []) : ax_Ok xs fr lo z pc ls st w (.threw i) w1 := by
  obtain ⟨f1, hf1⟩ := hc
  refine ⟨f1 + 1, ax_back hM he (Or.inr (Or.inr (Or.inl ⟨hinv, ?_⟩)))⟩
  subst hst
  have ht : ((as.reverse ++ rest).take (b % 100)).reverse = as := by
    rw [List.take_append_of_le_length (by simp; omega), List.take_of_length_le (by simp; omega), List.reverse_reverse]
  have hd : (as.reverse ++ rest).drop (b % 100) = rest := by
    rw [List.drop_append_of_le_length (by simp; omega), List.drop_eq_nil_of_le (by simp; omega), List.nil_append]
  unfold ax_road
  rw [hz, hb, if_neg (by omega)]
  simp only [ax_P, hM']
  rw [if_neg (by omega), if_neg (by omega), if_neg (by simp; omega), hd, ht, if_neg (by omega), if_neg (by omega), hrc, if_pos rfl, hf1]
  simp only [hi, hemp, ax_hdl, List.isEmpty_nil, if_true]
/-- a call that throws, caught here -/
theorem ok_callC {M M' : ax_M} {e : ax_E} (hM : ax_prog[z]? = some M) (he : M.1[pc]? = some (some e)) (hinv : ax_isinv e.1) {zc b : Nat} (hz : e.2.2.1 = zc) (hb : e.2.2.2.1 = b) (h1 : zc < 1000) (hM' : ax_prog[zc]? = some M') (hfr : 1 ≤ fr) (hlo : M'.2.1 + 19 ≤ lo)
    {as rest : List Value} (hst : st = as.reverse ++ rest) (hn : as.length = b % 100) (hwt : (rest.map ax_wt).sum ≤ 8) (hsl : (ax_sl as).length ≤ M'.2.1) (hrc : ax_rcv (b / 100) as w = true) {i t h : Nat} {q : List Value} {w1 : ax_W}
    (hc : ax_Ok xs (fr - 1) (lo - (M'.2.1 + 19)) zc 0 (ax_ent as M'.2.1) [] w (.threw i) w1) (hi : w1[i]? = some (t, q)) (hh : ax_hdl M.2.2.2 pc t = some h) (k : ax_Ok xs fr lo z h ls [.ref i] w1 o w') : ax_Ok xs fr lo z pc ls st w o w' := by
  obtain ⟨f1, hf1⟩ := hc
  obtain ⟨f2, hf2⟩ := k
  refine ⟨f1 + f2 + 1, ax_back hM he (Or.inr (Or.inr (Or.inl ⟨hinv, ?_⟩)))⟩
  subst hst
  have ht : ((as.reverse ++ rest).take (b % 100)).reverse = as := by
    rw [List.take_append_of_le_length (by simp; omega), List.take_of_length_le (by simp; omega), List.reverse_reverse]
  have hd : (as.reverse ++ rest).drop (b % 100) = rest := by
    rw [List.drop_append_of_le_length (by simp; omega), List.drop_eq_nil_of_le (by simp; omega), List.nil_append]
  unfold ax_road
  rw [hz, hb, if_neg (by omega)]
  simp only [ax_P, hM']
  rw [if_neg (by omega), if_neg (by omega), if_neg (by simp; omega), hd, ht, if_neg (by omega), if_neg (by omega), hrc, if_pos rfl, ax_moreN f2 hf1]
  simp only [hi, hh]
  have := ax_moreN f1 hf2
  rw [Nat.add_comm] at this
  exact this
end OK
section OK2
variable {xs : List Int32} {fr lo z : Nat} {ls : List (Option Value)} {st : List Value} {w w' : ax_W} {o : Outcome}
theorem ok_ite {c : Prop} [Decidable c] {a b : Nat} (h1 : c → ax_Ok xs fr lo z a ls st w o w') (h2 : ¬ c → ax_Ok xs fr lo z b ls st w o w') : ax_Ok xs fr lo z (if c then a else b) ls st w o w' := by
  split
  · rename_i h; exact h1 h
  · rename_i h; exact h2 h
theorem ok_cast {ls2 : List (Option Value)} {st2 : List Value} {w2 : ax_W} {pc pc2 : Nat} (h : ax_Ok xs fr lo z pc2 ls2 st2 w2 o w') (e1 : pc = pc2) (e2 : ls = ls2) (e3 : st = st2) (e4 : w = w2) : ax_Ok xs fr lo z pc ls st w o w' := by
  subst e1; subst e2; subst e3; subst e4; exact h
end OK2
theorem cmp_eq {x y : Int32} : ax_cmp .eq x y = true ↔ x = y := by simp [ax_cmp]
theorem cmp_ne {x y : Int32} : ax_cmp .ne x y = true ↔ ¬ x = y := by simp [ax_cmp]
theorem cmp_lt {x y : Int32} : ax_cmp .lt x y = true ↔ x < y := by simp [ax_cmp]
theorem cmp_ge {x y : Int32} : ax_cmp .ge x y = true ↔ y ≤ x := by simp [ax_cmp]
theorem cmp_gt {x y : Int32} : ax_cmp .gt x y = true ↔ y < x := by simp [ax_cmp]
theorem cmp_le {x y : Int32} : ax_cmp .le x y = true ↔ x ≤ y := by simp [ax_cmp]
section OK3
variable {xs : List Int32} {fr lo z pc : Nat} {ls : List (Option Value)} {st : List Value} {w w' : ax_W} {o : Outcome} {M : ax_M}
theorem ok_get {idx len c k j : Nat} (hM : ax_prog[z]? = some M) (he : M.1[pc]? = some (some (.getfield idx, len, c, k, j))) {i : Nat} {fs : List Value} {v : Value} (hw : w[i]? = some (c, fs)) (hv : fs[k]? = some v) (kk : ax_Ok xs fr lo z (pc + len) ls (v :: st) w o w') : ax_Ok xs fr lo z pc ls (.ref i :: st) w o w' := by
  refine ok_step hM he (w1 := w) ?_ kk
  have : ax_hp ax_kinds ax_kI ax_kJ xs (.getfield idx, len, c, k, j) (.ref i :: st) w = some (v :: st, w) := by
    simp [ax_hp, ax_get, hw, hv]
  show (match ax_hp ax_kinds ax_kI ax_kJ xs (.getfield idx, len, c, k, j) (.ref i :: st) w with
    | some (st', w') => some (pc + len, ls, st', w')
    | none => none) = _
  rw [this]
theorem ok_put {idx len c k j : Nat} (hM : ax_prog[z]? = some M) (he : M.1[pc]? = some (some (.putfield idx, len, c, k, j))) {ks : List Nat} {fk : Nat} (h1 : ax_kinds[c]? = some ks) (h2 : ks[k]? = some fk) {i : Nat} {fs : List Value} {v : Value} (hf : ax_fit fk v = true) (hw : w[i]? = some (c, fs)) (hk : k < fs.length) (kk : ax_Ok xs fr lo z (pc + len) ls st (w.set i (c, fs.set k v)) o w') : ax_Ok xs fr lo z pc ls (v :: .ref i :: st) w o w' := by
  refine ok_step hM he (w1 := w.set i (c, fs.set k v)) ?_ kk
  have : ax_hp ax_kinds ax_kI ax_kJ xs (.putfield idx, len, c, k, j) (v :: .ref i :: st) w = some (st, w.set i (c, fs.set k v)) := by
    simp [ax_hp, ax_put, hw, h1, h2, hf, hk]
  show (match ax_hp ax_kinds ax_kI ax_kJ xs (.putfield idx, len, c, k, j) (v :: .ref i :: st) w with
    | some (st', w') => some (pc + len, ls, st', w')
    | none => none) = _
  rw [this]
/-- an instruction of the heap, by what ax_hp gives -/
theorem ok_hp {e : ax_E} (hM : ax_prog[z]? = some M) (he : M.1[pc]? = some (some e)) (h1 : ax_st e.1 ls st = none) (h2 : ax_sto e.1 ls st = none) (h3 : ax_br e.1 e.2.2.1 (pc + e.2.1) pc st = none) {st' : List Value} {w1 : ax_W} (h4 : ax_hp ax_kinds ax_kI ax_kJ xs e st w = some (st', w1)) (kk : ax_Ok xs fr lo z (pc + e.2.1) ls st' w1 o w') : ax_Ok xs fr lo z pc ls st w o w' := by
  refine ok_step hM he (w1 := w1) ?_ kk
  unfold ax_step
  rw [h1]
  simp only
  rw [h2]
  simp only
  rw [h3]
  simp only
  rw [h4]
theorem ok_iald {len c k j : Nat} (hM : ax_prog[z]? = some M) (he : M.1[pc]? = some (some (.iaload, len, c, k, j))) {i : Nat} {n : Int32} {vs : List Value} {v : Value} (hw : w[i]? = some (20, vs)) (hn : ¬ n < 0) (hv : vs[n.toNatClampNeg]? = some v) (kk : ax_Ok xs fr lo z (pc + len) ls (v :: st) w o w') : ax_Ok xs fr lo z pc ls (.int n :: .ref i :: st) w o w' :=
  ok_hp hM he rfl rfl rfl (by simp [ax_hp, ax_ald, ax_rd, hw, hn, hv]) kk
theorem ok_lald {len c k j : Nat} (hM : ax_prog[z]? = some M) (he : M.1[pc]? = some (some (.laload, len, c, k, j))) {i : Nat} {n : Int32} {vs : List Value} {v : Value} (hw : w[i]? = some (21, vs)) (hn : ¬ n < 0) (hv : vs[n.toNatClampNeg]? = some v) (kk : ax_Ok xs fr lo z (pc + len) ls (v :: st) w o w') : ax_Ok xs fr lo z pc ls (.int n :: .ref i :: st) w o w' :=
  ok_hp hM he rfl rfl rfl (by simp [ax_hp, ax_ald, ax_rd, hw, hn, hv]) kk
theorem ok_cald {len c k j : Nat} (hM : ax_prog[z]? = some M) (he : M.1[pc]? = some (some (.caload, len, c, k, j))) {i : Nat} {n : Int32} {vs : List Value} {v : Value} (hw : w[i]? = some (22, vs)) (hn : ¬ n < 0) (hv : vs[n.toNatClampNeg]? = some v) (kk : ax_Ok xs fr lo z (pc + len) ls (v :: st) w o w') : ax_Ok xs fr lo z pc ls (.int n :: .ref i :: st) w o w' :=
  ok_hp hM he rfl rfl rfl (by simp [ax_hp, ax_ald, ax_rd, hw, hn, hv]) kk
theorem ok_zald {len c k j : Nat} (hM : ax_prog[z]? = some M) (he : M.1[pc]? = some (some (.baload, len, c, k, j))) {i : Nat} {n : Int32} {vs : List Value} {v : Value} (hw : w[i]? = some (23, vs)) (hn : ¬ n < 0) (hv : vs[n.toNatClampNeg]? = some v) (kk : ax_Ok xs fr lo z (pc + len) ls (v :: st) w o w') : ax_Ok xs fr lo z pc ls (.int n :: .ref i :: st) w o w' :=
  ok_hp hM he rfl rfl rfl (by simp [ax_hp, ax_ald, ax_rd, hw, hn, hv]) kk
theorem ok_aald {len c k j : Nat} (hM : ax_prog[z]? = some M) (he : M.1[pc]? = some (some (.aaload, len, c, k, j))) {i t : Nat} {n : Int32} {vs : List Value} {v : Value} (hw : w[i]? = some (t, vs)) (ht : ¬ t < 30) (hn : ¬ n < 0) (hv : vs[n.toNatClampNeg]? = some v) (kk : ax_Ok xs fr lo z (pc + len) ls (v :: st) w o w') : ax_Ok xs fr lo z pc ls (.int n :: .ref i :: st) w o w' :=
  ok_hp hM he rfl rfl rfl (by simp [ax_hp, ax_aald, hw, ht, hn, hv]) kk
theorem ok_alen {len c k j : Nat} (hM : ax_prog[z]? = some M) (he : M.1[pc]? = some (some (.arraylength, len, c, k, j))) {i t : Nat} {vs : List Value} (hw : w[i]? = some (t, vs)) (ht : ¬ t < 20) (kk : ax_Ok xs fr lo z (pc + len) ls (.int vs.length.toInt32 :: st) w o w') : ax_Ok xs fr lo z pc ls (.ref i :: st) w o w' :=
  ok_hp hM he rfl rfl rfl (by simp [ax_hp, ax_alen, hw, ht]) kk
theorem ok_iast {len c k j : Nat} (hM : ax_prog[z]? = some M) (he : M.1[pc]? = some (some (.iastore, len, c, k, j))) {i : Nat} {n x : Int32} {vs : List Value} (hw : w[i]? = some (20, vs)) (hn : ¬ n < 0) (hl : n.toNatClampNeg < vs.length) (kk : ax_Ok xs fr lo z (pc + len) ls st (w.set i (20, vs.set n.toNatClampNeg (.int x))) o w') : ax_Ok xs fr lo z pc ls (.int x :: .int n :: .ref i :: st) w o w' :=
  ok_hp hM he rfl rfl rfl (by simp [ax_hp, ax_ast, ax_wr, hw, hn, hl]) kk
theorem ok_last {len c k j : Nat} (hM : ax_prog[z]? = some M) (he : M.1[pc]? = some (some (.lastore, len, c, k, j))) {i : Nat} {n : Int32} {x : Int64} {vs : List Value} (hw : w[i]? = some (21, vs)) (hn : ¬ n < 0) (hl : n.toNatClampNeg < vs.length) (kk : ax_Ok xs fr lo z (pc + len) ls st (w.set i (21, vs.set n.toNatClampNeg (.long x))) o w') : ax_Ok xs fr lo z pc ls (.long x :: .int n :: .ref i :: st) w o w' :=
  ok_hp hM he rfl rfl rfl (by simp [ax_hp, ax_last, ax_wr, hw, hn, hl]) kk
theorem ok_cast22 {len c k j : Nat} (hM : ax_prog[z]? = some M) (he : M.1[pc]? = some (some (.castore, len, c, k, j))) {i : Nat} {n x : Int32} {vs : List Value} (hw : w[i]? = some (22, vs)) (hn : ¬ n < 0) (hl : n.toNatClampNeg < vs.length) (h0 : ¬ x < 0) (h1 : ¬ 65535 < x) (kk : ax_Ok xs fr lo z (pc + len) ls st (w.set i (22, vs.set n.toNatClampNeg (.int x))) o w') : ax_Ok xs fr lo z pc ls (.int x :: .int n :: .ref i :: st) w o w' :=
  ok_hp hM he rfl rfl rfl (by simp [ax_hp, ax_cast, ax_ast, ax_wr, hw, hn, hl, h0, h1]) kk
theorem ok_zast {len c k j : Nat} (hM : ax_prog[z]? = some M) (he : M.1[pc]? = some (some (.bastore, len, c, k, j))) {i : Nat} {n x : Int32} {vs : List Value} (hw : w[i]? = some (23, vs)) (hn : ¬ n < 0) (hl : n.toNatClampNeg < vs.length) (h0 : ¬ x < 0) (h1 : ¬ 1 < x) (kk : ax_Ok xs fr lo z (pc + len) ls st (w.set i (23, vs.set n.toNatClampNeg (.int x))) o w') : ax_Ok xs fr lo z pc ls (.int x :: .int n :: .ref i :: st) w o w' :=
  ok_hp hM he rfl rfl rfl (by simp [ax_hp, ax_cast, ax_ast, ax_wr, hw, hn, hl, h0, h1]) kk
end OK3
