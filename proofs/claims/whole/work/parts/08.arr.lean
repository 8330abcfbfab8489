/-! arrays, making cells, constants -/
/-- what lies outside and is read: arrays of ints -/
def ax_XS (xs : List Int32) (B : Nat) (X : Nat → Value) (H0 : Heap) (s : State) : Prop := ∀ (k : Nat) (ys : List Int32), ax_ext xs k = some ys →
  ∃ (a : Nat) (cell : Cell), X k = .ref a ∧ a < B ∧ H0[a]? = some cell ∧ s.isArrayOf cell .int ∧ cell.vm ≠ .unknown ∧ (ys.length ≤ cell.slots.size ∧ cell.slots.size.toInt32 = ys.length.toInt32) ∧ ∀ (j : Nat) (y : Int32), ys[j]? = some y → cell.slots[j]? = some (.int y)
theorem ax_XS.moved {xs : List Int32} {B : Nat} {X : Nat → Value} {H0 : Heap} {u U : State} (hvm : u.vm.Alike U.vm) (h : ax_XS xs B X H0 u) : ax_XS xs B X H0 U := fun k ys hk => by
  obtain ⟨a, cell, h1, h2, h3, h4, h5⟩ := h k ys hk
  exact ⟨a, cell, h1, h2, h3, State.isArrayOf_alike hvm h4, h5⟩
theorem ax_nat_of {x : Int32} (h : ¬ x < 0) : x.toInt = (x.toNatClampNeg : Int) := by
  have hz0 : (0 : Int) ≤ x.toInt := by
    have := Int32.not_lt.mp h
    simpa using Int32.le_iff_toInt_le.mp this
  show x.toInt = ((x.toInt.toNat : Nat) : Int)
  omega
theorem ax_ofNat {x : Int32} (h : ¬ x < 0) : x = Int32.ofNat x.toNatClampNeg := by
  have h1 := ax_nat_of h
  have h2 : x.toNatClampNeg < 2 ^ 31 := by
    have := Int32.toInt_lt x
    omega
  apply Int32.toInt_inj.mp
  rw [toInt_of rfl h2, h1]
theorem ax_char {x : Int32} (h0 : ¬ x < 0) (h1 : ¬ 65535 < x) : narrow .char (.int x) = .int x := by
  have e := ax_ofNat h0
  have h2 : x.toNatClampNeg < 65536 := by
    have h3 := ax_nat_of h0
    have h4 : x.toInt ≤ (65535 : Int32).toInt := Int32.le_iff_toInt_le.mp (Int32.not_lt.mp h1)
    have h5 : (65535 : Int32).toInt = 65535 := by decide
    omega
  rw [e]
  exact (pk_charN h2).1
theorem ax_bool {x : Int32} (h0 : ¬ x < 0) (h1 : ¬ 1 < x) : narrow .boolean (.int x) = .int x := by
  have h3 := ax_nat_of h0
  have h4 : x.toInt ≤ (1 : Int32).toInt := Int32.le_iff_toInt_le.mp (Int32.not_lt.mp h1)
  have h5 : (1 : Int32).toInt = 1 := by decide
  have h6 : x.toNatClampNeg = 0 ∨ x.toNatClampNeg = 1 := by omega
  have e := ax_ofNat h0
  rcases h6 with h6 | h6 <;> rw [h6] at e <;> rw [e] <;> rfl
theorem ax_cast_inv {t : Nat} {hi : Int32} {st : List Value} {w : ax_W} {r' : List Value × ax_W} (h : ax_cast t hi st w = some r') : ∃ x j i r w', ¬ x < 0 ∧ ¬ hi < x ∧ st = .int x :: .int j :: .ref i :: r ∧ ax_wr w i t j (.int x) = some w' ∧ r' = (r, w') := by
  unfold ax_cast at h; split at h
  · split at h
    · cases h
    · rename_i hx
      simp only [Bool.or_eq_true, decide_eq_true_eq, not_or] at hx
      obtain ⟨x, j, i, r, w', e, h2, h3⟩ := ax_ast_inv h
      cases e
      exact ⟨_, j, i, r, w', hx.1, hx.2, rfl, h2, h3⟩
  · cases h
theorem ax_aald_inv {st st' : List Value} {w : ax_W} (h : ax_aald st w = some st') : ∃ j i r t vs v, st = .int j :: .ref i :: r ∧ w[i]? = some (t, vs) ∧ ¬ t < 30 ∧ ¬ j < 0 ∧ vs[j.toNatClampNeg]? = some v ∧ st' = v :: r := by
  unfold ax_aald at h; split at h
  · split at h
    · rename_i t vs hw
      split at h
      · cases h
      · rename_i ht
        split at h
        · cases h
        · rename_i hj
          split at h
          · rename_i v hv; cases h; exact ⟨_, _, _, t, vs, v, rfl, hw, ht, hj, hv, rfl⟩
          · cases h
    · cases h
  · cases h
theorem ax_aast_inv {st : List Value} {w : ax_W} {r' : List Value × ax_W} (h : ax_aast st w = some r') : ∃ x j i r q w', st = .ref x :: .int j :: .ref i :: r ∧ w[x]? = some q ∧ ax_wr w i (30 + q.1) j (.ref x) = some w' ∧ r' = (r, w') := by
  unfold ax_aast at h; split at h
  · split at h
    · rename_i c q hw
      split at h
      · rename_i w' hw'; cases h; exact ⟨_, _, _, _, (c, q), w', rfl, hw, hw', rfl⟩
      · cases h
    · cases h
  · cases h
theorem ax_last_inv {st : List Value} {w : ax_W} {r' : List Value × ax_W} (h : ax_last st w = some r') : ∃ x j i r w', st = .long x :: .int j :: .ref i :: r ∧ ax_wr w i 21 j (.long x) = some w' ∧ r' = (r, w') := by
  unfold ax_last at h; split at h
  · split at h
    · rename_i w' hw; cases h; exact ⟨_, _, _, _, _, rfl, hw, rfl⟩
    · cases h
  · cases h
theorem ax_alen_inv {xs : List Int32} {st st' : List Value} {w : ax_W} (h : ax_alen xs st w = some st') :
    (∃ i r t vs, st = .ref i :: r ∧ w[i]? = some (t, vs) ∧ ¬ t < 20 ∧ st' = .int vs.length.toInt32 :: r) ∨ ∃ k r ys, st = .retAddr k :: r ∧ ax_ext xs k = some ys ∧ st' = .int ys.length.toInt32 :: r := by
  unfold ax_alen at h; split at h
  · split at h
    · rename_i t vs hw
      split at h
      · cases h
      · rename_i ht; cases h; exact Or.inl ⟨_, _, t, vs, rfl, hw, ht, rfl⟩
    · cases h
  · split at h
    · rename_i ys hy; cases h; exact Or.inr ⟨_, _, ys, rfl, hy, rfl⟩
    · cases h
  · cases h
section AX5
variable {p : Program} {l : Launch} {e : Env} {R : Room} {s : State} {m : MethodId} {args : Array Value} {below : List Frame} {meth : Method} {c : Code} {H : Heap} {locs : List Loc} {cells slots : Nat} {Q : State → Prop}
variable {cc : ByteArray} {pc : Nat} {A : Array Slot} {B : Nat} {X : Nat → Value} {D : va_G} {H0 : Heap} {w w' : ax_W} {st st' : List Value} {own : String} {xs : List Int32}
theorem ax_in {q : Nat × List Value} {cell : Cell} (h : ax_cell B X D q cell) (ht : 20 ≤ q.1) {j : Int32} (hj : ¬ j < 0) (hl : j.toNatClampNeg < q.2.length) : ¬ (j < 0 ∨ cell.slots.size ≤ j.toNatClampNeg) := by
  rw [(h.2.2.2.1 ht).2]
  intro q
  rcases q with q | q
  · exact hj q
  · omega
theorem ax_slt {q : Nat × List Value} {cell : Cell} (h : ax_cell B X D q cell) (ht : 20 ≤ q.1) {k : Nat} {v : Value} (hv : q.2[k]? = some v) : cell.slots[k]? = some (ax_v B X v) := by
  have := h.2.2.2.2.2.2 k v hv
  unfold ax_sx at this
  rw [if_pos ht] at this
  exact this
theorem ax_iald_ok (hexec : p.tables.exec = Jvm.exec) (hb : c.code = cc) (hK : ax_K D s) (hXS : ax_XS xs B X H0 s) (hS : ax_Sim B X D H0 w H) (hd : decode cc pc = .ok (.iaload, 1)) (h : ax_ald 20 xs st w = some st')
    (kk : W p l e R s m args below meth c H locs cells slots Q (F0 m (pc + 1) A (st'.map (ax_v B X)))) : W p l e R s m args below meth c H locs cells slots Q (F0 m pc A (st.map (ax_v B X))) := by
  rcases ax_ald_inv h with ⟨j, i, r, v, rfl, hr, rfl⟩ | ⟨j, k, r, ys, y, -, rfl, hy, hj, hyj, rfl⟩
  · obtain ⟨vs, hw, hj, hv⟩ := ax_rd_inv hr
    obtain ⟨cell, c1, c2⟩ := hS.2.1 i _ hw
    exact W.iald hexec hb c1 (c2.arr hK rfl) c2.known (ax_in c2 (Nat.le_refl 20) hj (List.getElem?_eq_some_iff.mp hv).1) (ax_slt c2 (Nat.le_refl 20) hv) rfl rfl hd kk
  · obtain ⟨a, cell, h1, h2, h3, h4, h5, h6, h7⟩ := hXS k ys hy
    have hH : H[a]? = some cell := by rw [hS.2.2 a h2]; exact h3
    have hlt : j.toNatClampNeg < ys.length := (List.getElem?_eq_some_iff.mp hyj).1
    simp only [List.map_cons, ax_v, h1] at kk ⊢
    have hin : ¬ (j < 0 ∨ cell.slots.size ≤ j.toNatClampNeg) := by
      have h61 := h6.1
      intro q
      rcases q with q | q
      · exact hj q
      · omega
    exact W.iald hexec hb hH h4 h5 hin (h7 _ _ hyj) rfl rfl hd kk
theorem ax_lald_ok (hexec : p.tables.exec = Jvm.exec) (hb : c.code = cc) (hK : ax_K D s) (hS : ax_Sim B X D H0 w H) (hd : decode cc pc = .ok (.laload, 1)) (h : ax_ald 21 xs st w = some st')
    (kk : W p l e R s m args below meth c H locs cells slots Q (F0 m (pc + 1) A (st'.map (ax_v B X)))) : W p l e R s m args below meth c H locs cells slots Q (F0 m pc A (st.map (ax_v B X))) := by
  rcases ax_ald_inv h with ⟨j, i, r, v, rfl, hr, rfl⟩ | ⟨j, k, r, ys, y, q, -⟩
  · obtain ⟨vs, hw, hj, hv⟩ := ax_rd_inv hr
    obtain ⟨cell, c1, c2⟩ := hS.2.1 i _ hw
    exact W.lald hexec hb c1 (c2.arr hK rfl) c2.known (ax_in c2 (by show 20 ≤ 21; omega) hj (List.getElem?_eq_some_iff.mp hv).1) (ax_slt c2 (by show 20 ≤ 21; omega) hv) rfl rfl hd kk
  · cases q
theorem ax_cald_ok (hexec : p.tables.exec = Jvm.exec) (hb : c.code = cc) (hK : ax_K D s) (hS : ax_Sim B X D H0 w H) (hd : decode cc pc = .ok (.caload, 1)) (h : ax_ald 22 xs st w = some st')
    (kk : W p l e R s m args below meth c H locs cells slots Q (F0 m (pc + 1) A (st'.map (ax_v B X)))) : W p l e R s m args below meth c H locs cells slots Q (F0 m pc A (st.map (ax_v B X))) := by
  rcases ax_ald_inv h with ⟨j, i, r, v, rfl, hr, rfl⟩ | ⟨j, k, r, ys, y, q, -⟩
  · obtain ⟨vs, hw, hj, hv⟩ := ax_rd_inv hr
    obtain ⟨cell, c1, c2⟩ := hS.2.1 i _ hw
    exact W.cald hexec hb c1 (c2.arr hK rfl) c2.known (ax_in c2 (by show 20 ≤ 22; omega) hj (List.getElem?_eq_some_iff.mp hv).1) (ax_slt c2 (by show 20 ≤ 22; omega) hv) rfl rfl hd kk
  · cases q
theorem ax_zald_ok (hexec : p.tables.exec = Jvm.exec) (hb : c.code = cc) (hK : ax_K D s) (hS : ax_Sim B X D H0 w H) (hd : decode cc pc = .ok (.baload, 1)) (h : ax_ald 23 xs st w = some st')
    (kk : W p l e R s m args below meth c H locs cells slots Q (F0 m (pc + 1) A (st'.map (ax_v B X)))) : W p l e R s m args below meth c H locs cells slots Q (F0 m pc A (st.map (ax_v B X))) := by
  rcases ax_ald_inv h with ⟨j, i, r, v, rfl, hr, rfl⟩ | ⟨j, k, r, ys, y, q, -⟩
  · obtain ⟨vs, hw, hj, hv⟩ := ax_rd_inv hr
    obtain ⟨cell, c1, c2⟩ := hS.2.1 i _ hw
    exact W.zald hexec hb c1 (c2.arr hK rfl) c2.known (ax_in c2 (by show 20 ≤ 23; omega) hj (List.getElem?_eq_some_iff.mp hv).1) (ax_slt c2 (by show 20 ≤ 23; omega) hv) rfl rfl hd kk
  · cases q
theorem ax_ref_ty {t : Nat} {ty : FieldType} (h : ax_ty t = some ty) (ht : ¬ t < 30) : ∃ q, cls_all[t - 30]? = some q ∧ ty = .object q.1 ∧ 30 ≤ t ∧ t < 41 := by
  unfold ax_ty at h
  split at h <;> first | (exact absurd (by decide) ht) | (cases h; exact ⟨_, rfl, rfl, by decide, by decide⟩) | cases h
theorem ax_aald_ok (hexec : p.tables.exec = Jvm.exec) (hb : c.code = cc) (hK : ax_K D s) (hS : ax_Sim B X D H0 w H) (hd : decode cc pc = .ok (.aaload, 1)) (h : ax_aald st w = some st')
    (kk : W p l e R s m args below meth c H locs cells slots Q (F0 m (pc + 1) A (st'.map (ax_v B X)))) : W p l e R s m args below meth c H locs cells slots Q (F0 m pc A (st.map (ax_v B X))) := by
  obtain ⟨j, i, r, t, vs, v, rfl, hw, ht, hj, hv, rfl⟩ := ax_aald_inv h
  obtain ⟨cell, c1, c2⟩ := hS.2.1 i _ hw
  have h20 : 20 ≤ t := by omega
  obtain ⟨⟨ty, hty⟩, -⟩ := c2.2.2.2.1 h20
  obtain ⟨q, -, rfl, -⟩ := ax_ref_ty hty ht
  exact W.aald hexec hb c1 (c2.arr hK hty) rfl c2.known (ax_in c2 h20 hj (List.getElem?_eq_some_iff.mp hv).1) (ax_slt c2 h20 hv) rfl rfl hd kk
theorem ax_alen_ok (hexec : p.tables.exec = Jvm.exec) (hb : c.code = cc) (hK : ax_K D s) (hXS : ax_XS xs B X H0 s) (hS : ax_Sim B X D H0 w H) (hd : decode cc pc = .ok (.arraylength, 1)) (h : ax_alen xs st w = some st')
    (kk : W p l e R s m args below meth c H locs cells slots Q (F0 m (pc + 1) A (st'.map (ax_v B X)))) : W p l e R s m args below meth c H locs cells slots Q (F0 m pc A (st.map (ax_v B X))) := by
  rcases ax_alen_inv h with ⟨i, r, t, vs, rfl, hw, ht, rfl⟩ | ⟨k, r, ys, rfl, hy, rfl⟩
  · obtain ⟨cell, c1, c2⟩ := hS.2.1 i _ hw
    obtain ⟨⟨ty, hty⟩, hz⟩ := c2.2.2.2.1 (by show 20 ≤ t; omega)
    exact W.alen hexec hb c1 (c2.arr hK hty) (by rw [hz]) rfl rfl hd kk
  · obtain ⟨a, cell, h1, h2, h3, h4, h5, h6, h7⟩ := hXS k ys hy
    have hH : H[a]? = some cell := by rw [hS.2.2 a h2]; exact h3
    simp only [List.map_cons, ax_v, h1] at kk ⊢
    exact W.alen hexec hb hH h4 h6.2 rfl rfl hd kk
/-- the heap behind a store into an array -/
theorem ax_stored (hS : ax_Sim B X D H0 w H) {i t : Nat} {j : Int32} {v : Value} {vs : List Value} {cell : Cell} (hw : w[i]? = some (t, vs)) (ht : 20 ≤ t) (hl : j.toNatClampNeg < vs.length) (c2 : ax_cell B X D (t, vs) cell) {H' : Heap}
    (e1 : H'[B + i]? = some (cell.setSlot j.toNatClampNeg (ax_v B X v))) (e2 : H'.size = H.size) (e3 : ∀ q, q ≠ B + i → H'[q]? = H[q]?) : ax_Sim B X D H0 (w.set i (t, vs.set j.toNatClampNeg v)) H' := by
  have hset := c2.set (fun q => absurd q (by show ¬ t < 20; omega)) ⟨by show t ≠ 9; omega, by show t ≠ 10; omega⟩ hl v
  refine hS.set (List.getElem?_eq_some_iff.mp hw).1 hset ?_ e2 e3
  rw [show ax_sx D (t, vs).1 j.toNatClampNeg = j.toNatClampNeg from by unfold ax_sx; rw [if_pos ht]]
  exact e1
theorem ax_iast_ok (hexec : p.tables.exec = Jvm.exec) (hb : c.code = cc) (hK : ax_K D s) (hS : ax_Sim B X D H0 w H) (hd : decode cc pc = .ok (.iastore, 1)) (h : ax_ast 20 st w = some (st', w'))
    (kk : ∀ (H' : Heap) (a : Nat × Nat), ax_Sim B X D H0 w' H' → B ≤ a.1 → W p l e R s m args below meth c H' (locs ++ [⟨a.1, a.2⟩]) cells slots Q (F0 m (pc + 1) A (st'.map (ax_v B X)))) : W p l e R s m args below meth c H locs cells slots Q (F0 m pc A (st.map (ax_v B X))) := by
  obtain ⟨x, j, i, r, w1, rfl, hr, er⟩ := ax_ast_inv h
  cases er
  obtain ⟨vs, hw, hj, hl, rfl⟩ := ax_wr_inv hr
  obtain ⟨cell, c1, c2⟩ := hS.2.1 i _ hw
  exact W.iast hexec hb c1 (c2.arr hK rfl) c2.known (ax_in c2 (Nat.le_refl 20) hj hl) rfl rfl hd fun H' e1 e2 e3 => kk H' (_, _) (ax_stored (v := .int x) hS hw (Nat.le_refl 20) hl c2 e1 e2 e3) (Nat.le_add_right _ _)
theorem ax_last_ok (hexec : p.tables.exec = Jvm.exec) (hb : c.code = cc) (hK : ax_K D s) (hS : ax_Sim B X D H0 w H) (hd : decode cc pc = .ok (.lastore, 1)) (h : ax_last st w = some (st', w'))
    (kk : ∀ (H' : Heap) (a : Nat × Nat), ax_Sim B X D H0 w' H' → B ≤ a.1 → W p l e R s m args below meth c H' (locs ++ [⟨a.1, a.2⟩]) cells slots Q (F0 m (pc + 1) A (st'.map (ax_v B X)))) : W p l e R s m args below meth c H locs cells slots Q (F0 m pc A (st.map (ax_v B X))) := by
  obtain ⟨x, j, i, r, w1, rfl, hr, er⟩ := ax_last_inv h
  cases er
  obtain ⟨vs, hw, hj, hl, rfl⟩ := ax_wr_inv hr
  obtain ⟨cell, c1, c2⟩ := hS.2.1 i _ hw
  exact W.last hexec hb c1 (c2.arr hK rfl) c2.known (ax_in c2 (by show 20 ≤ 21; omega) hj hl) rfl rfl hd fun H' e1 e2 e3 => kk H' (_, _) (ax_stored (v := .long x) hS hw (by omega) hl c2 e1 e2 e3) (Nat.le_add_right _ _)
theorem ax_cast_ok (hexec : p.tables.exec = Jvm.exec) (hb : c.code = cc) (hK : ax_K D s) (hS : ax_Sim B X D H0 w H) (hd : decode cc pc = .ok (.castore, 1)) (h : ax_cast 22 65535 st w = some (st', w'))
    (kk : ∀ (H' : Heap) (a : Nat × Nat), ax_Sim B X D H0 w' H' → B ≤ a.1 → W p l e R s m args below meth c H' (locs ++ [⟨a.1, a.2⟩]) cells slots Q (F0 m (pc + 1) A (st'.map (ax_v B X)))) : W p l e R s m args below meth c H locs cells slots Q (F0 m pc A (st.map (ax_v B X))) := by
  obtain ⟨x, j, i, r, w1, hx0, hx1, rfl, hr, er⟩ := ax_cast_inv h
  cases er
  obtain ⟨vs, hw, hj, hl, rfl⟩ := ax_wr_inv hr
  obtain ⟨cell, c1, c2⟩ := hS.2.1 i _ hw
  refine W.cast hexec hb c1 (c2.arr hK rfl) c2.known (ax_in c2 (by show 20 ≤ 22; omega) hj hl) rfl rfl hd fun H' e1 e2 e3 => kk H' (_, _) (ax_stored (v := .int x) hS hw (by omega) hl c2 ?_ e2 e3) (Nat.le_add_right _ _)
  rw [e1, ax_char hx0 hx1]
  rfl
theorem ax_zast_ok (hexec : p.tables.exec = Jvm.exec) (hb : c.code = cc) (hK : ax_K D s) (hS : ax_Sim B X D H0 w H) (hd : decode cc pc = .ok (.bastore, 1)) (h : ax_cast 23 1 st w = some (st', w'))
    (kk : ∀ (H' : Heap) (a : Nat × Nat), ax_Sim B X D H0 w' H' → B ≤ a.1 → W p l e R s m args below meth c H' (locs ++ [⟨a.1, a.2⟩]) cells slots Q (F0 m (pc + 1) A (st'.map (ax_v B X)))) : W p l e R s m args below meth c H locs cells slots Q (F0 m pc A (st.map (ax_v B X))) := by
  obtain ⟨x, j, i, r, w1, hx0, hx1, rfl, hr, er⟩ := ax_cast_inv h
  cases er
  obtain ⟨vs, hw, hj, hl, rfl⟩ := ax_wr_inv hr
  obtain ⟨cell, c1, c2⟩ := hS.2.1 i _ hw
  refine W.zast hexec hb c1 (c2.arr hK rfl) c2.known (ax_in c2 (by show 20 ≤ 23; omega) hj hl) rfl rfl hd fun H' e1 e2 e3 => kk H' (_, _) (ax_stored (v := .int x) hS hw (by omega) hl c2 ?_ e2 e3) (Nat.le_add_right _ _)
  rw [e1, ax_bool hx0 hx1]
  rfl
theorem ax_aast_ok (hexec : p.tables.exec = Jvm.exec) (hb : c.code = cc) (hK : ax_K D s) (hS : ax_Sim B X D H0 w H) (hd : decode cc pc = .ok (.aastore, 1)) (h : ax_aast st w = some (st', w'))
    (kk : ∀ (H' : Heap) (a : Nat × Nat), ax_Sim B X D H0 w' H' → B ≤ a.1 → W p l e R s m args below meth c H' (locs ++ [⟨a.1, a.2⟩]) cells slots Q (F0 m (pc + 1) A (st'.map (ax_v B X)))) : W p l e R s m args below meth c H locs cells slots Q (F0 m pc A (st.map (ax_v B X))) := by
  obtain ⟨x, j, i, r, q, w1, rfl, hx, hr, er⟩ := ax_aast_inv h
  cases er
  obtain ⟨vs, hw, hj, hl, rfl⟩ := ax_wr_inv hr
  obtain ⟨cell, c1, c2⟩ := hS.2.1 i _ hw
  obtain ⟨cv, v1, v2⟩ := hS.2.1 x _ hx
  obtain ⟨⟨ty, hty⟩, hz⟩ := c2.2.2.2.1 (by show 20 ≤ 30 + q.1; omega)
  obtain ⟨u, hu, rfl, -⟩ := ax_ref_ty hty (by show ¬ 30 + q.1 < 30; omega)
  rw [show (30 + q.1, vs).1 - 30 = q.1 from by show 30 + q.1 - 30 = q.1; omega] at hu
  have hcls := (hK.1 _ u hu).2
  obtain ⟨kA, comp, k1, k2, k3, -⟩ := (hK.2 _ _ hty).2
  have hcomp : comp = D.1 q.1 := Option.some.inj (k3.symm.trans hcls.1)
  subst hcomp
  obtain ⟨kC, hkC, -⟩ := hcls.2
  exact W.aast hexec hb c1 (fun z hz => by rw [c2.2.1] at hz; cases hz) c2.known (by rw [c2.1]; exact k1) k2 rfl hkC ⟨hj, by rw [hz]; exact hl⟩ v1 (fun z hz => by rw [v2.2.1] at hz; cases hz) (by rw [v2.1]; exact hkC) (by rw [v2.1]; exact va_assign hcls) rfl rfl hd
    fun H' e1 e2 e3 => kk H' (_, _) (ax_stored (v := .ref x) hS hw (by omega) hl c2 e1 e2 e3) (Nat.le_add_right _ _)
end AX5
