/-! one step of the abstract machine is the machine's -/
def ax_G (s0 : State) (A0 : Array Value) (D : va_G) (B : Nat) (X : Nat → Value) (H0 : Heap) (xs : List Int32) : Prop :=
  (∀ w ∈ lw_tbl, w.before A0 s0 = true) ∧ ax_K D s0 ∧ ax_ap D ∧ ax_Xr X ∧ ax_XS xs B X H0 s0 ∧ H0.size = B ∧ va_Z "MatrixDesk" "UNITS" "[I" (X 1) (fun q => B ≤ q) s0 H0 ∧ ∀ k, 2 ≤ k → k < 6 → ∃ a, X k = .ref a ∧ vk_R "MatrixDesk" (ax_ix k) (ax_txt k) a s0
def ax_Fr (s0 : State) (y : MethodName) (bytes : ByteArray) (maxL : Nat) (ret : Option FieldType) (hs : List (Nat × Nat × Nat × Nat)) (p : Program) (s : State) (m : MethodId) (meth : Method) (c : Code) : Prop :=
  p.tables.exec = Jvm.exec ∧ c.code = bytes ∧ c.maxLocals = maxL ∧ meth.sig.returnType = ret ∧ meth.locks = false ∧ s.vm.findClass y.cls = some m.cls ∧ meth.name = y.name ∧ c.exceptionTable.toList.map (fun h => (h.startPc, h.endPc, h.handlerPc, h.catchType)) = hs ∧ s0.WarmedH s.vm
theorem ax_G.word {s0 : State} {A0 : Array Value} {D : va_G} {B : Nat} {X : Nat → Value} {H0 : Heap} {xs : List Int32} (G : ax_G s0 A0 D B X H0 xs) {s : State} (hW : s0.WarmedH s.vm) {args : Array Value} {w : Jvm.Cond} (hw : w ∈ lw_tbl) (hk : ax_keep w = true) : w.before args s = true := ax_word hW hk (G.1 w hw)
/-- the kinds of the fields are those of their descriptors; the words on the fields are there -/
def ax_kok1 (k : Option Nat) (ty : Option FieldType) : Bool := match k, ty with
  | some 0, some .int => true
  | some 1, some .boolean => true
  | some 2, some (.object _) => true
  | some 2, some (.array _) => true
  | _, _ => false
def ax_kok (a : Nat) : Bool := match cls_all[a]?, ax_kinds[a]? with
  | some q, some ks => decide (ks.length ≤ q.2.2) && decide (ax_cs (a, ks.map ax_dfl) = q.2.2) && (List.range ks.length).all (fun b => ax_kok1 ks[b]? (parseFieldDescriptor (q.2.1 b).2.2.1)) && (List.range q.2.2).all (fun b => (parseFieldDescriptor (q.2.1 b).2.2.1).isSome) && (u_ws q.1 q.2.1 q.2.2).all (fun v => decide (v ∈ lw_tbl) && ax_keep v)
  | _, _ => false
set_option maxRecDepth 100000 in
theorem ax_kall : (List.range 11).all ax_kok = true := by decide +kernel
theorem ax_kspec {a : Nat} {q : vw_C} {ks : List Nat} (ha : a < 11) (hq : cls_all[a]? = some q) (hk : ax_kinds[a]? = some ks) : ks.length ≤ q.2.2 ∧ ax_cs (a, ks.map ax_dfl) = q.2.2 ∧ (∀ b, b < ks.length → ax_kok1 ks[b]? (parseFieldDescriptor (q.2.1 b).2.2.1) = true) ∧ (∀ b, b < q.2.2 → (parseFieldDescriptor (q.2.1 b).2.2.1).isSome = true) ∧ ∀ v ∈ u_ws q.1 q.2.1 q.2.2, v ∈ lw_tbl ∧ ax_keep v = true := by
  have h := List.all_eq_true.mp ax_kall a (List.mem_range.mpr ha)
  unfold ax_kok at h
  rw [hq, hk] at h
  simp only [Bool.and_eq_true, decide_eq_true_eq, List.all_eq_true, List.mem_range] at h
  obtain ⟨⟨⟨⟨h1, h2⟩, h3⟩, h4⟩, h5⟩ := h
  exact ⟨h1, h2, h3, h4, h5⟩
theorem ax_kinds_some {a : Nat} (ha : a < 11) : ∃ ks, ax_kinds[a]? = some ks := ⟨ax_kinds[a]'(by show a < 11; exact ha), List.getElem?_eq_getElem _⟩
theorem ax_kok1_spec {fk : Nat} {ty : Option FieldType} (h : ax_kok1 (some fk) ty = true) : ∃ t, ty = some t ∧ ((fk = 0 ∧ t = .int) ∨ (fk = 1 ∧ t = .boolean) ∨ (fk = 2 ∧ ((∃ n, t = .object n) ∨ ∃ u, t = .array u))) := by
  unfold ax_kok1 at h
  split at h
  · rename_i h1; cases h1; exact ⟨_, rfl, Or.inl ⟨rfl, rfl⟩⟩
  · rename_i h1; cases h1; exact ⟨_, rfl, Or.inr (Or.inl ⟨rfl, rfl⟩)⟩
  · rename_i h1; cases h1; exact ⟨_, rfl, Or.inr (Or.inr ⟨rfl, Or.inl ⟨_, rfl⟩⟩)⟩
  · rename_i h1; cases h1; exact ⟨_, rfl, Or.inr (Or.inr ⟨rfl, Or.inr ⟨_, rfl⟩⟩)⟩
  · cases h
theorem ax_echk_len {own : String} {b : Bool} {pc : Nat} {e : ax_E} (h : ax_echk own b pc e = true) (ht : ∀ d lo hi offs, e.1 ≠ .tableswitch d lo hi offs) : e.2.1 = ax_len e.1 := by
  obtain ⟨i, len, a, b2, j⟩ := e
  simp only at ht ⊢
  unfold ax_echk at h
  simp only at h
  split at h <;> simp only [Bool.and_eq_true, decide_eq_true_eq] at h
  · exact absurd rfl (ht _ _ _ _)
  · exact h.1
  · exact h.1
  · exact h.1
  · exact h.1.1
  · exact h.1.1.1
  · exact h.1
  · exact h.1
  · exact h.1
  · exact h.1
  · exact h.1.1
  · exact h.1
  · exact h.1.1
  · exact h.1
  · exact h.1
  · exact h
theorem ax_sz_set {w : ax_W} {i : Nat} {q q' : Nat × List Value} (hw : w[i]? = some q) (hc : ax_cs q' = ax_cs q) : ax_sz (w.set i q') = ax_sz w := by
  unfold ax_sz
  induction w generalizing i with
  | nil => simp at hw
  | cons x r ih =>
    cases i with
    | zero =>
      simp only [List.getElem?_cons_zero, Option.some.injEq] at hw
      subst hw
      simp [hc]
    | succ k =>
      rw [List.getElem?_cons_succ] at hw
      simp only [List.set_cons_succ, List.map_cons, List.sum_cons, ih hw]
theorem ax_cs_set (t : Nat) (vs : List Value) (k : Nat) (v : Value) : ax_cs (t, vs.set k v) = ax_cs (t, vs) := by
  unfold ax_cs
  simp
set_option maxRecDepth 100000 in
theorem ax_arrays : ∀ ty ∈ ([.int, .long, .char, .boolean] : List FieldType), Cond.arrayClass ty ∈ lw_tbl := by decide +kernel
section AX9
variable {p : Program} {l : Launch} {e : Env} {R : Room} {s : State} {m : MethodId} {args : Array Value} {below : List Frame} {meth : Method} {c : Code} {H : Heap} {locs : List Loc} {cells slots : Nat} {Q : State → Prop}
variable {pc pc' : Nat} {A : Array Slot} {B : Nat} {X : Nat → Value} {D : va_G} {H0 : Heap} {w w' : ax_W} {st st' : List Value} {ls ls' : List (Option Value)} {xs : List Int32} {s0 : State} {A0 : Array Value}
variable {y : MethodName} {bytes : ByteArray} {maxL : Nat} {ret : Option FieldType} {hs : List (Nat × Nat × Nat × Nat)} {en : ax_E}
/-- heap instructions -/
theorem ax_hp_ok (G : ax_G s0 A0 D B X H0 xs) (hF : ax_Fr s0 y bytes maxL ret hs p s m meth c) (hS : ax_Sim B X D H0 w H) (hde : decode bytes pc = .ok (en.1, en.2.1)) (hck : ax_echk y.cls (decide (y.name = "<init>")) pc en = true)
    (h : ax_hp ax_kinds ax_kI ax_kJ xs en st w = some (st', w')) (hcell : w'.length = w.length + 1 → cells + 1 ≤ R.cells) (hslot : ∀ k, ax_sz w' = ax_sz w + k → slots + k ≤ R.slots)
    (kk : ∀ (H' : Heap) (L : List Loc) (cells' slots' : Nat), ax_Sim B X D H0 w' H' → (∀ q ∈ L, B ≤ q.base) → cells' + w.length = cells + w'.length → slots' + ax_sz w = slots + ax_sz w' → W p l e R s m args below meth c H' (locs ++ L) cells' slots' Q (F0 m (pc + en.2.1) A (st'.map (ax_v B X)))) :
    W p l e R s m args below meth c H locs cells slots Q (F0 m pc A (st.map (ax_v B X))) := by
  obtain ⟨hexec, hb, hml, -, -, hown, hname, -, hW⟩ := hF
  obtain ⟨-, hK0, hap, hX, hXS0, hB, hZ, hR⟩ := id G
  have hK := hK0.moved hW.alike
  have hXS := hXS0.moved hW.alike
  have same : ∀ {z : List Value}, w' = w → st' = z → (∀ (q : W p l e R s m args below meth c H locs cells slots Q (F0 m (pc + en.2.1) A (z.map (ax_v B X)))), W p l e R s m args below meth c H locs cells slots Q (F0 m pc A (st.map (ax_v B X)))) → W p l e R s m args below meth c H locs cells slots Q (F0 m pc A (st.map (ax_v B X))) := by
    intro z e1 e2 q
    subst e1; subst e2
    have := kk H [] cells slots hS (fun q hq => absurd hq List.not_mem_nil) rfl rfl
    rw [List.append_nil] at this
    exact q this
  have wrote : ∀ {i t : Nat} {vs : List Value} {k : Nat} {v : Value}, w[i]? = some (t, vs) → w' = w.set i (t, vs.set k v) → ∀ (H' : Heap) (a : Nat × Nat), ax_Sim B X D H0 w' H' → B ≤ a.1 → W p l e R s m args below meth c H' (locs ++ [⟨a.1, a.2⟩]) cells slots Q (F0 m (pc + en.2.1) A (st'.map (ax_v B X))) := by
    intro i t vs k v hw e1 H' a hS' ha
    refine kk H' [⟨a.1, a.2⟩] cells slots hS' (fun q hq => ?_) (by rw [e1]; simp) (by rw [e1, ax_sz_set hw (ax_cs_set _ _ _ _)])
    simp only [List.mem_singleton] at hq
    rw [hq]; exact ha
  have made : w'.length = w.length + 1 → ∀ (H' : Heap) (k : Nat), ax_Sim B X D H0 w' H' → ax_sz w' = ax_sz w + k → w'.length = w.length + 1 → W p l e R s m args below meth c H' locs (cells + 1) (slots + k) Q (F0 m (pc + en.2.1) A (st'.map (ax_v B X))) := by
    intro _ H' k hS' hz hl
    have := kk H' [] (cells + 1) (slots + k) hS' (fun q hq => absurd hq List.not_mem_nil) (by omega) (by omega)
    rw [List.append_nil] at this
    exact this
  obtain ⟨ins, len, ea, eb, ej⟩ := en
  simp only at hde kk same wrote made
  unfold ax_hp at h
  simp only at h
  have hlen := ax_echk_len hck
  simp only at hlen
  split at h
  · cases hlen (fun _ _ _ _ q => by cases q)
    obtain ⟨r, hr, e1⟩ := Option.map_eq_some_iff.mp h
    cases e1
    exact same rfl rfl fun q => ax_iald_ok hexec hb hK hXS hS hde hr q
  · cases hlen (fun _ _ _ _ q => by cases q)
    obtain ⟨r, hr, e1⟩ := Option.map_eq_some_iff.mp h
    cases e1
    exact same rfl rfl fun q => ax_lald_ok hexec hb hK hS hde hr q
  · cases hlen (fun _ _ _ _ q => by cases q)
    obtain ⟨r, hr, e1⟩ := Option.map_eq_some_iff.mp h
    cases e1
    exact same rfl rfl fun q => ax_cald_ok hexec hb hK hS hde hr q
  · cases hlen (fun _ _ _ _ q => by cases q)
    obtain ⟨r, hr, e1⟩ := Option.map_eq_some_iff.mp h
    cases e1
    exact same rfl rfl fun q => ax_zald_ok hexec hb hK hS hde hr q
  · cases hlen (fun _ _ _ _ q => by cases q)
    obtain ⟨r, hr, e1⟩ := Option.map_eq_some_iff.mp h
    cases e1
    exact same rfl rfl fun q => ax_aald_ok hexec hb hK hS hde hr q
  · cases hlen (fun _ _ _ _ q => by cases q)
    obtain ⟨r, hr, e1⟩ := Option.map_eq_some_iff.mp h
    cases e1
    exact same rfl rfl fun q => ax_alen_ok hexec hb hK hXS hS hde hr q
  · -- getfield
    rename_i idx
    cases hlen (fun _ _ _ _ q => by cases q)
    obtain ⟨r, hr, e1⟩ := Option.map_eq_some_iff.mp h
    cases e1
    unfold ax_echk at hck
    simp only [Bool.and_eq_true, decide_eq_true_eq] at hck
    obtain ⟨q, hq, hbq, hdq, hl⟩ := ax_field_w hck.1.2
    obtain ⟨ks, hks⟩ := ax_kinds_some (show ea < 11 by omega)
    have hsp := ax_kspec (by omega) hq hks
    refine same rfl rfl fun k => ax_get_ok hexec hb hown hK hS hq hbq hdq (fun v hv => G.word hW (hsp.2.2.2.2 v hv).1 (hsp.2.2.2.2 v hv).2) ?_ (by omega) hde hr k
    rcases hl with hl | hl
    · exact Or.inl (G.word hW hl rfl)
    · exact Or.inr ⟨_, G.word hW hl rfl⟩
  · -- getstatic
    rename_i idx
    cases hlen (fun _ _ _ _ q => by cases q)
    unfold ax_echk at hck
    simp only [Bool.and_eq_true, decide_eq_true_eq] at hck
    obtain ⟨ha, hl⟩ := ax_stat_w hck.2
    subst ha
    cases h
    exact same rfl rfl fun q => ax_gets_ok hexec hb hown hS hB (hZ.moved hW.alike) (G.word hW hl rfl) hde q
  · -- ldc
    rename_i idx
    cases hlen (fun _ _ _ _ q => by cases q)
    unfold ax_echk at hck
    simp only [Bool.and_eq_true, Bool.or_eq_true, decide_eq_true_eq] at hck
    rcases hck.2 with ⟨h0, hp⟩ | ⟨h0, hp⟩
    · subst h0
      obtain ⟨x, hx, hl⟩ := ax_int_w hp
      simp only [if_true, hx] at h
      cases h
      exact same rfl rfl fun q => lv_ldc hexec hb hown (G.word hW hl rfl) hde q
    · subst h0
      obtain ⟨h1, h2, h3, h4⟩ := ax_str_w hp
      simp only [Nat.one_ne_zero, if_false] at h
      cases h
      obtain ⟨a, hXa, hv⟩ := hR ea h1 h2
      have hv := hv.warm hW
      rw [← h4, ← h3] at hv
      refine same rfl rfl fun q => ?_
      simp only [List.map_cons, ax_v, hXa] at q
      exact va_ldcS hexec hb hown hv hde q
  · -- ldc_w
    rename_i idx
    cases hlen (fun _ _ _ _ q => by cases q)
    unfold ax_echk at hck
    simp only [Bool.and_eq_true, decide_eq_true_eq] at hck
    have h0 := hck.1.2
    subst h0
    obtain ⟨x, hx, hl⟩ := ax_int_w hck.2
    simp only [if_true, hx] at h
    cases h
    exact same rfl rfl fun q => lv_ldcw hexec hb hown (G.word hW hl rfl) hde q
  · -- ldc2_w
    rename_i idx
    cases hlen (fun _ _ _ _ q => by cases q)
    unfold ax_echk at hck
    simp only [Bool.and_eq_true, decide_eq_true_eq] at hck
    obtain ⟨x, hx, hl⟩ := ax_long_w hck.2
    simp only [hx] at h
    cases h
    exact same rfl rfl fun q => lv_ldc2 hexec hb hown (G.word hW hl rfl) hde q
  · -- iastore
    cases hlen (fun _ _ _ _ q => by cases q)
    obtain ⟨x, j, i, r, w1, -, hr, er⟩ := ax_ast_inv h
    cases er
    obtain ⟨vs, hw, -, -, e1⟩ := ax_wr_inv hr
    exact ax_iast_ok hexec hb hK hS hde h (wrote hw e1)
  · cases hlen (fun _ _ _ _ q => by cases q)
    obtain ⟨x, j, i, r, w1, -, hr, er⟩ := ax_last_inv h
    cases er
    obtain ⟨vs, hw, -, -, e1⟩ := ax_wr_inv hr
    exact ax_last_ok hexec hb hK hS hde h (wrote hw e1)
  · cases hlen (fun _ _ _ _ q => by cases q)
    obtain ⟨x, j, i, r, w1, -, -, -, hr, er⟩ := ax_cast_inv h
    cases er
    obtain ⟨vs, hw, -, -, e1⟩ := ax_wr_inv hr
    exact ax_cast_ok hexec hb hK hS hde h (wrote hw e1)
  · cases hlen (fun _ _ _ _ q => by cases q)
    obtain ⟨x, j, i, r, w1, -, -, -, hr, er⟩ := ax_cast_inv h
    cases er
    obtain ⟨vs, hw, -, -, e1⟩ := ax_wr_inv hr
    exact ax_zast_ok hexec hb hK hS hde h (wrote hw e1)
  · cases hlen (fun _ _ _ _ q => by cases q)
    obtain ⟨x, j, i, r, q, w1, -, -, hr, er⟩ := ax_aast_inv h
    cases er
    obtain ⟨vs, hw, -, -, e1⟩ := ax_wr_inv hr
    exact ax_aast_ok hexec hb hK hS hde h (wrote hw e1)
  · -- putfield
    rename_i idx
    cases hlen (fun _ _ _ _ q => by cases q)
    unfold ax_echk at hck
    simp only [Bool.and_eq_true, decide_eq_true_eq] at hck
    obtain ⟨⟨⟨-, hpj⟩, ha9⟩, hfin⟩ := hck
    obtain ⟨q, hq, hbq, hdq, hl⟩ := ax_field_w hpj
    split at h
    · rename_i ks hks
      split at h
      · rename_i fk hfk
        have hsp := ax_kspec (by omega) hq hks
        have hbl : eb < ks.length := (List.getElem?_eq_some_iff.mp hfk).1
        have hk1 := hsp.2.2.1 eb hbl
        rw [hfk] at hk1
        obtain ⟨ty, hty, hfk2⟩ := ax_kok1_spec hk1
        obtain ⟨v, i, r, fs, -, -, hw, -, e1⟩ := ax_put_inv h
        cases e1
        refine ax_put_ok hexec hb hown hK hap hS hq hbq hdq (fun v hv => G.word hW (hsp.2.2.2.2 v hv).1 (hsp.2.2.2.2 v hv).2) ?_ ?_ ha9 hty hfk2 hde h (wrote hw rfl)
        · rcases hl with hl | hl
          · exact Or.inl (G.word hW hl rfl)
          · exact Or.inr ⟨_, G.word hW hl rfl⟩
        · intro hfl
          rw [hq] at hfin
          simp only [hfl, Bool.not_true, Bool.false_or, Bool.and_eq_true, decide_eq_true_eq] at hfin
          obtain ⟨⟨g1, g2⟩, g3⟩ := hfin
          obtain ⟨q', hq', hl'⟩ := ax_field0_w g3
          cases hq.symm.trans hq'
          exact ⟨G.word hW hl' rfl, by rw [hname]; exact g1, g2⟩
      · cases h
    · cases h
  · -- new
    rename_i idx
    cases hlen (fun _ _ _ _ q => by cases q)
    unfold ax_echk at hck
    simp only [Bool.and_eq_true, decide_eq_true_eq] at hck
    obtain ⟨q, hq, ha11, hl1, hl2, hl3⟩ := ax_new_w hck.2
    obtain ⟨ks, hks⟩ := ax_kinds_some ha11
    have hsp := ax_kspec ha11 hq hks
    have hl' : w'.length = w.length + 1 := by
      have h2 := h
      unfold ax_new at h2
      rw [hks] at h2
      cases h2
      simp
    refine ax_new_ok hexec hb hown hK hS hq ha11 hks hsp.2.1 hsp.1 (fun k => (parseFieldDescriptor (q.2.1 k).2.2.1).getD .int) ?_ ?_ (fun v hv => G.word hW (hsp.2.2.2.2 v hv).1 (hsp.2.2.2.2 v hv).2) (G.word hW hl1 rfl) (G.word hW hl2 rfl) (G.word hW hl3 rfl) hde h (hcell hl') hslot (made hl')
    · intro k hk
      obtain ⟨t, ht⟩ := Option.isSome_iff_exists.mp (hsp.2.2.2.1 k hk)
      rw [ht]; rfl
    · intro k fk hfk
      have hk1 := hsp.2.2.1 k (List.getElem?_eq_some_iff.mp hfk).1
      rw [hfk] at hk1
      obtain ⟨ty, hty, hfk2⟩ := ax_kok1_spec hk1
      rw [hty]
      simp only [Option.getD_some]
      rcases hfk2 with ⟨rfl, rfl⟩ | ⟨rfl, rfl⟩ | ⟨rfl, ⟨n, rfl⟩ | ⟨n, rfl⟩⟩ <;> rfl
  · -- newarray
    rename_i t
    cases hlen (fun _ _ _ _ q => by cases q)
    split at h
    · rename_i tg d hat
      have hl' : w'.length = w.length + 1 := by
        obtain ⟨n, r, -, -, -, er⟩ := ax_newa_inv h
        cases er
        simp
      have harr : Cond.arrayClass (newarray.typeOf t) ∈ lw_tbl := by
        cases t <;> simp only [ax_at] at hat <;> first | exact ax_arrays _ (by decide) | cases hat
      exact ax_newarray_ok hexec hb hK hS hat (G.word hW harr rfl) hde h (hcell hl') hslot (made hl')
    · cases h
  · -- anewarray
    rename_i idx
    cases hlen (fun _ _ _ _ q => by cases q)
    unfold ax_echk at hck
    simp only [Bool.and_eq_true, decide_eq_true_eq] at hck
    obtain ⟨C, hty, hl1, hl2⟩ := ax_anew_w hck.2
    have hl' : w'.length = w.length + 1 := by
      obtain ⟨n, r, -, -, -, er⟩ := ax_newa_inv h
      cases er
      simp
    exact ax_anew_ok hexec hb hown hK hS hty (G.word hW hl1 rfl) (G.word hW hl2 rfl) hde h (hcell hl') hslot (made hl')
  · cases h
end AX9
