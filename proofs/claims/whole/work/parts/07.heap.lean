/-! fields and arrays: the abstract step is the machine's -/
theorem ax_get_inv {cn k : Nat} {st st' : List Value} {w : ax_W} (h : ax_get cn k st w = some st') : ∃ i r fs v, st = .ref i :: r ∧ w[i]? = some (cn, fs) ∧ fs[k]? = some v ∧ st' = v :: r := by
  unfold ax_get at h; split at h
  · split at h
    · rename_i c' fs hw
      split at h
      · rename_i hc
        subst hc
        split at h
        · rename_i v hv; cases h; exact ⟨_, _, _, _, rfl, hw, hv, rfl⟩
        · cases h
      · cases h
    · cases h
  · cases h
theorem ax_put_inv {cn k fk : Nat} {st : List Value} {w : ax_W} {r' : List Value × ax_W} (h : ax_put cn k fk st w = some r') : ∃ v i r fs, st = v :: .ref i :: r ∧ ax_fit fk v = true ∧ w[i]? = some (cn, fs) ∧ k < fs.length ∧ r' = (r, w.set i (cn, fs.set k v)) := by
  unfold ax_put at h; split at h
  · split at h
    · rename_i hf
      split at h
      · rename_i c' fs hw
        split at h
        · rename_i hc
          subst hc
          split at h
          · rename_i hk; cases h; exact ⟨_, _, _, _, rfl, hf, hw, hk, rfl⟩
          · cases h
        · cases h
      · cases h
    · cases h
  · cases h
theorem ax_rd_inv {w : ax_W} {i t : Nat} {j : Int32} {v : Value} (h : ax_rd w i t j = some v) : ∃ vs, w[i]? = some (t, vs) ∧ ¬ j < 0 ∧ vs[j.toNatClampNeg]? = some v := by
  unfold ax_rd at h; split at h
  · rename_i t' vs hw
    split at h
    · rename_i ht
      subst ht
      split at h
      · cases h
      · rename_i hj; exact ⟨vs, hw, hj, h⟩
    · cases h
  · cases h
theorem ax_wr_inv {w w' : ax_W} {i t : Nat} {j : Int32} {v : Value} (h : ax_wr w i t j v = some w') : ∃ vs, w[i]? = some (t, vs) ∧ ¬ j < 0 ∧ j.toNatClampNeg < vs.length ∧ w' = w.set i (t, vs.set j.toNatClampNeg v) := by
  unfold ax_wr at h; split at h
  · rename_i t' vs hw
    split at h
    · rename_i ht
      subst ht
      split at h
      · cases h
      · rename_i hj
        split at h
        · rename_i hl; cases h; exact ⟨vs, hw, hj, hl, rfl⟩
        · cases h
    · cases h
  · cases h
theorem ax_ald_inv {t : Nat} {xs : List Int32} {st st' : List Value} {w : ax_W} (h : ax_ald t xs st w = some st') :
    (∃ j i r v, st = .int j :: .ref i :: r ∧ ax_rd w i t j = some v ∧ st' = v :: r) ∨ ∃ j k r ys y, t = 20 ∧ st = .int j :: .retAddr k :: r ∧ ax_ext xs k = some ys ∧ ¬ j < 0 ∧ ys[j.toNatClampNeg]? = some y ∧ st' = .int y :: r := by
  unfold ax_ald at h; split at h
  · split at h
    · rename_i v hv; cases h; exact Or.inl ⟨_, _, _, _, rfl, hv, rfl⟩
    · cases h
  · split at h
    · rename_i ht
      split at h
      · rename_i ys hys
        split at h
        · cases h
        · rename_i hj
          split at h
          · rename_i y hy; cases h; exact Or.inr ⟨_, _, _, _, _, ht, rfl, hys, hj, hy, rfl⟩
          · cases h
      · cases h
    · cases h
  · cases h
theorem ax_ast_inv {t : Nat} {st : List Value} {w : ax_W} {r' : List Value × ax_W} (h : ax_ast t st w = some r') : ∃ x j i r w', st = .int x :: .int j :: .ref i :: r ∧ ax_wr w i t j (.int x) = some w' ∧ r' = (r, w') := by
  unfold ax_ast at h; split at h
  · split at h
    · rename_i w' hw; cases h; exact ⟨_, _, _, _, _, rfl, hw, rfl⟩
    · cases h
  · cases h
theorem ax_fit_ok {B : Nat} {X : Nat → Value} {fk : Nat} {v : Value} {ty : FieldType} (h : ax_fit fk v = true) (hty : (fk = 0 ∧ ty = .int) ∨ (fk = 1 ∧ ty = .boolean) ∨ (fk = 2 ∧ ((∃ n, ty = .object n) ∨ ∃ t, ty = .array t))) : narrow ty (ax_v B X v) = ax_v B X v ∧ fits ty (ax_v B X v) = true := by
  rcases hty with ⟨rfl, rfl⟩ | ⟨rfl, rfl⟩ | ⟨rfl, ⟨n, rfl⟩ | ⟨n, rfl⟩⟩
  · cases v <;> simp [ax_fit] at h
    exact ⟨rfl, rfl⟩
  · cases v with
    | int x =>
      simp only [ax_fit, Bool.or_eq_true, beq_iff_eq] at h
      rcases h with rfl | rfl <;> exact ⟨rfl, rfl⟩
    | _ => simp [ax_fit] at h
  · cases v <;> simp [ax_fit] at h <;> exact ⟨rfl, rfl⟩
  · cases v <;> simp [ax_fit] at h <;> exact ⟨rfl, rfl⟩
section AX4
variable {p : Program} {l : Launch} {e : Env} {R : Room} {s : State} {m : MethodId} {args : Array Value} {below : List Frame} {meth : Method} {c : Code} {H : Heap} {locs : List Loc} {cells slots : Nat} {Q : State → Prop}
variable {cc : ByteArray} {pc : Nat} {A : Array Slot} {B : Nat} {X : Nat → Value} {D : va_G} {H0 : Heap} {w w' : ax_W} {st st' : List Value} {own : String}
def ax_lk (own : String) (idx : Nat) (q : vw_C) (k : Nat) (args : Array Value) (s : State) : Prop :=
  (Cond.fieldLink own idx q.1 (q.2.1 k).2.1 (q.2.1 k).2.2.1).before args s = true ∨ ∃ host, (Cond.fieldLinkNest own idx q.1 (q.2.1 k).2.1 (q.2.1 k).2.2.1 host).before args s = true
theorem ax_get_ok (hexec : p.tables.exec = Jvm.exec) (hb : c.code = cc) (hown : s.vm.findClass own = some m.cls) (hK : ax_K D s) (hS : ax_Sim B X D H0 w H) {cn k idx : Nat} {q : vw_C} (hc : cls_all[cn]? = some q) (hk : k < q.2.2)
    (hdecl : (q.2.1 k).1 = q.1) (hws : ∀ v ∈ u_ws q.1 q.2.1 q.2.2, v.before args s = true) (hlink : ax_lk own idx q k args s) (hcn : cn < 20) (hd : decode cc pc = .ok (.getfield idx, 3)) (h : ax_get cn k st w = some st')
    (kk : W p l e R s m args below meth c H locs cells slots Q (F0 m (pc + 3) A (st'.map (ax_v B X)))) : W p l e R s m args below meth c H locs cells slots Q (F0 m pc A (st.map (ax_v B X))) := by
  obtain ⟨i, r, fs, v, rfl, hw, hv, rfl⟩ := ax_get_inv h
  obtain ⟨cell, c1, c2⟩ := hS.2.1 i _ hw
  obtain ⟨hSl, hfc, kC, hkC, hkind⟩ := hK.1 cn q hc
  obtain ⟨cf, kf, fi, f, hi, hsl⟩ := hSl k hk
  rw [hdecl] at hi
  have hst := (u_facts hfc hkC (by have := u_lays hws (fun v hv => hv) hk; rw [hdecl] at this; exact this) hi).1
  have hslot : cell.slots[f.slot]? = some (ax_v B X v) := by
    have := c2.2.2.2.2.2.2 k v hv
    unfold ax_sx at this
    rw [if_neg (by show ¬ 20 ≤ cn; omega)] at this
    rw [hsl]; exact this
  rcases hlink with hl | ⟨host, hl⟩
  · exact W.getf hexec hb hown hl hi hst c1 c2.known hslot rfl rfl hd kk
  · exact va_Wgetf hexec hb hown hl hi hst c1 c2.known hslot rfl rfl hd kk
/-- the fields of a class lie apart -/
def ax_ap (D : va_G) : Prop := ∀ t, t < 20 → ∀ a b, a < ax_nf t → b < ax_nf t → a ≠ b → D.2 t a ≠ D.2 t b
theorem ax_put_ok (hexec : p.tables.exec = Jvm.exec) (hb : c.code = cc) (hown : s.vm.findClass own = some m.cls) (hK : ax_K D s) (hap : ax_ap D) (hS : ax_Sim B X D H0 w H) {cn k fk idx : Nat} {q : vw_C} (hc : cls_all[cn]? = some q) (hk : k < q.2.2)
    (hdecl : (q.2.1 k).1 = q.1) (hws : ∀ v ∈ u_ws q.1 q.2.1 q.2.2, v.before args s = true) (hlink : ax_lk own idx q k args s)
    (hfin : (q.2.1 k).2.2.2 = true → (Cond.fieldLink own idx q.1 (q.2.1 k).2.1 (q.2.1 k).2.2.1).before args s = true ∧ meth.name = "<init>" ∧ q.1 = own) (hcn : cn < 9) {ty : FieldType} (hty : parseFieldDescriptor (q.2.1 k).2.2.1 = some ty)
    (hfk : (fk = 0 ∧ ty = .int) ∨ (fk = 1 ∧ ty = .boolean) ∨ (fk = 2 ∧ ((∃ n, ty = .object n) ∨ ∃ t, ty = .array t))) (hd : decode cc pc = .ok (.putfield idx, 3)) (h : ax_put cn k fk st w = some (st', w'))
    (kk : ∀ (H' : Heap) (a : Nat × Nat), ax_Sim B X D H0 w' H' → B ≤ a.1 → W p l e R s m args below meth c H' (locs ++ [⟨a.1, a.2⟩]) cells slots Q (F0 m (pc + 3) A (st'.map (ax_v B X)))) : W p l e R s m args below meth c H locs cells slots Q (F0 m pc A (st.map (ax_v B X))) := by
  obtain ⟨v, i, r, fs, rfl, hf, hw, hkl, e⟩ := ax_put_inv h
  cases e
  obtain ⟨cell, c1, c2⟩ := hS.2.1 i _ hw
  obtain ⟨hSl, hfc, kC, hkC, hkind⟩ := hK.1 cn q hc
  obtain ⟨cf, kf, fi, f, hi, hsl⟩ := hSl k hk
  rw [hdecl] at hi
  have hlay := u_lays hws (fun v hv => hv) hk
  rw [hdecl] at hlay
  have hst := (u_facts hfc hkC hlay hi).1
  have hset := c2.set (fun ht => hap _ ht) ⟨by show cn ≠ 9; omega, by show cn ≠ 10; omega⟩ hkl v
  have hsx : ax_sx D cn k = f.slot := by
    unfold ax_sx
    rw [if_neg (by omega), hsl]
  have hlt : f.slot < cell.slots.size := by
    have := c2.2.2.2.2.2.2 k _ (List.getElem?_eq_getElem hkl)
    rw [show ax_sx D (cn, fs).1 k = f.slot from hsx] at this
    exact k2_hasslot this
  obtain ⟨hn, hft⟩ := ax_fit_ok (B := B) (X := X) hf hfk
  have hcc : cell.cls = D.1 cn := c2.1
  have hil : i < w.length := (List.getElem?_eq_some_iff.mp hw).1
  by_cases hfl : (q.2.1 k).2.2.2 = true
  · obtain ⟨hl, hin, hqo⟩ := hfin hfl
    have hlf := hws _ (u_in_lay hk)
    unfold u_lay at hlf
    rw [if_pos hfl, hdecl] at hlf
    have hcf : m.cls = cf := by
      obtain ⟨_, _, c', _, _, _, -, -, hf', -, -, -, hown2, -⟩ := Cond.laysFinal_spec hlf
      have e1 : c' = cf := by have := hi.symm.trans hf'; simp at this; exact this.1.symm
      rw [hqo] at hown2
      rw [← e1]; exact Option.some.inj (hown.symm.trans hown2)
    have h6 := u_fits hfc hkC hkind (Or.inr hlf) hi hty hn hft
    refine W.putFinK hexec hb hown hl hi hst hcf hin (by rw [hcc]; exact h6) c1 c2.2.1 hlt rfl rfl hd fun H' e1 e2 e3 => ?_
    refine kk H' (_, _) (hS.set hil hset ?_ e2 e3) (Nat.le_add_right _ _)
    rw [show ax_sx D (cn, fs).1 k = f.slot from hsx]
    exact e1
  · have hlf := hws _ (u_in_lay hk)
    unfold u_lay at hlf
    rw [if_neg hfl, hdecl] at hlf
    have h6 := u_store hfc hkC hkind hlf hi hty hn hft
    rcases hlink with hl | ⟨host, hl⟩
    · refine W.putK hexec hb (f := f) ⟨hown, hl, ⟨_, _, _, hi⟩, hst⟩ (by rw [hcc]; exact h6) c1 c2.2.1 hlt rfl rfl hd fun H' e1 e2 e3 => ?_
      refine kk H' (_, _) (hS.set hil hset ?_ e2 e3) (Nat.le_add_right _ _)
      rw [show ax_sx D (cn, fs).1 k = f.slot from hsx]
      exact e1
    · refine va_WputK hexec hb (f := f) hown hl hi hst (by rw [hcc]; exact h6) c1 c2.2.1 hlt rfl rfl hd fun H' e1 e2 e3 => ?_
      refine kk H' (_, _) (hS.set hil hset ?_ e2 e3) (Nat.le_add_right _ _)
      rw [show ax_sx D (cn, fs).1 k = f.slot from hsx]
      exact e1
end AX4
