/-! making cells, constants, System.arraycopy, Object's constructor -/
theorem ax_newa_inv {t : Nat} {d : Value} {st : List Value} {w : ax_W} {r' : List Value × ax_W} (h : ax_newa t d st w = some r') : ∃ n r, st = .int n :: r ∧ ¬ n < 0 ∧ n.toNatClampNeg ≤ 100000 ∧ r' = (.ref w.length :: r, w ++ [(t, List.replicate n.toNatClampNeg d)]) := by
  unfold ax_newa at h; split at h
  · rename_i n r
    split at h
    · cases h
    · rename_i hn
      simp only [Bool.or_eq_true, decide_eq_true_eq, not_or] at hn
      cases h
      refine ⟨n, r, rfl, hn.1, ?_, rfl⟩
      have h3 := ax_nat_of hn.1
      have h4 : n.toInt ≤ (100000 : Int32).toInt := Int32.le_iff_toInt_le.mp (Int32.not_lt.mp hn.2)
      have h5 : (100000 : Int32).toInt = 100000 := by decide
      omega
  · cases h
theorem ax_sz_push (w : ax_W) (q : Nat × List Value) : ax_sz (w ++ [q]) = ax_sz w + ax_cs q := by simp [ax_sz]
theorem ax_cs_arr {t : Nat} {vs : List Value} (h : 20 ≤ t) : ax_cs (t, vs) = vs.length := by
  unfold ax_cs
  rw [if_neg (by show ¬ t = 9; omega), if_neg (by show ¬ t = 10; omega)]
section AX6
variable {p : Program} {l : Launch} {e : Env} {R : Room} {s : State} {m : MethodId} {args : Array Value} {below : List Frame} {meth : Method} {c : Code} {H : Heap} {locs : List Loc} {cells slots : Nat} {Q : State → Prop}
variable {cc : ByteArray} {pc : Nat} {A : Array Slot} {B : Nat} {X : Nat → Value} {D : va_G} {H0 : Heap} {w w' : ax_W} {st st' : List Value} {own : String} {xs : List Int32}
theorem ax_arr_cell {t n : Nat} {d : Value} {ty : FieldType} (ht : ax_ty t = some ty) (h20 : 20 ≤ t) (hd : ax_v B X d = defaultValue ty) : ax_cell B X D (t, List.replicate n d) (arrV (D.1 t) n (fun _ => defaultValue ty)) := by
  refine ⟨rfl, rfl, ⟨rfl, rfl⟩, fun _ => ⟨⟨ty, ht⟩, by rw [arrV_size]; simp⟩, fun q => absurd q (by show ¬ t < 20; omega), by rw [arrV_size, ax_cs_arr h20]; simp, fun k v hv => ?_⟩
  have hk : k < n := by
    have := (List.getElem?_eq_some_iff.mp hv).1
    simpa using this
  have hv' : v = d := by
    have h2 : (List.replicate n d)[k]? = some v := hv
    rw [List.getElem?_replicate, if_pos hk] at h2
    exact (Option.some.inj h2).symm
  subst hv'
  unfold ax_sx
  rw [if_pos h20, arrV_read _ _ hk, hd]
theorem ax_newarray_ok (hexec : p.tables.exec = Jvm.exec) (hb : c.code = cc) (hK : ax_K D s) (hS : ax_Sim B X D H0 w H) {t : ArrayType} {tg : Nat} {d : Value} (hat : ax_at t = some (tg, d)) (harr : (Cond.arrayClass (newarray.typeOf t)).before args s = true)
    (hd : decode cc pc = .ok (.newarray t, 2)) (h : ax_newa tg d st w = some (st', w')) (hcells : cells + 1 ≤ R.cells) (hslots : ∀ k, ax_sz w' = ax_sz w + k → slots + k ≤ R.slots)
    (kk : ∀ (H' : Heap) (k : Nat), ax_Sim B X D H0 w' H' → ax_sz w' = ax_sz w + k → w'.length = w.length + 1 → W p l e R s m args below meth c H' locs (cells + 1) (slots + k) Q (F0 m (pc + 2) A (st'.map (ax_v B X)))) : W p l e R s m args below meth c H locs cells slots Q (F0 m pc A (st.map (ax_v B X))) := by
  obtain ⟨n, r, rfl, hn0, hn1, er⟩ := ax_newa_inv h
  cases er
  have facts : ax_ty tg = some (newarray.typeOf t) ∧ 20 ≤ tg ∧ ax_v B X d = defaultValue (newarray.typeOf t) ∧ componentBytes (newarray.typeOf t) ≤ 8 ∧ ∀ cA, va_RA s cA (newarray.typeOf t) → s.vm.findClass ("[" ++ (newarray.typeOf t).toString) = some cA := by
    cases t <;> simp only [ax_at] at hat <;> cases hat <;> exact ⟨rfl, by decide, rfl, by decide, fun cA h => h⟩
  obtain ⟨f1, f2, f3, f4, f5⟩ := facts
  have hsz : ax_sz (w ++ [(tg, List.replicate n.toNatClampNeg d)]) = ax_sz w + n.toNatClampNeg := by
    rw [ax_sz_push, ax_cs_arr f2]; simp
  refine va_newaK hexec hb harr rfl hd rfl hn0 rfl ?_ hcells (hslots _ hsz) rfl fun H1 cA e1 z1 o1 hAr hNm => ?_
  · have := Nat.mul_le_mul hn1 f4
    omega
  · have hcA : cA = D.1 tg := Option.some.inj (hNm.symm.trans (f5 _ (hK.2 _ _ f1).2))
    subst hcA
    have hz := hS.1
    have := kk H1 n.toNatClampNeg (hS.push (ax_arr_cell f1 f2 f3) e1 z1 o1) hsz (by simp)
    have e2 : (Value.ref w.length :: r).map (ax_v B X) = Value.ref H.size :: r.map (ax_v B X) := by
      simp only [List.map_cons, ax_v, hz]
    rw [e2] at this
    exact this
theorem ax_anew_ok (hexec : p.tables.exec = Jvm.exec) (hb : c.code = cc) (hown : s.vm.findClass own = some m.cls) (hK : ax_K D s) (hS : ax_Sim B X D H0 w H) {cn idx : Nat} {C : String} (hty : ax_ty (30 + cn) = some (.object C)) (hcl : (Cond.classLink own idx C).before args s = true) (hov : (Cond.arrayOver (.object C)).before args s = true)
    (hd : decode cc pc = .ok (.anewarray idx, 3)) (h : ax_newa (30 + cn) .null st w = some (st', w')) (hcells : cells + 1 ≤ R.cells) (hslots : ∀ k, ax_sz w' = ax_sz w + k → slots + k ≤ R.slots)
    (kk : ∀ (H' : Heap) (k : Nat), ax_Sim B X D H0 w' H' → ax_sz w' = ax_sz w + k → w'.length = w.length + 1 → W p l e R s m args below meth c H' locs (cells + 1) (slots + k) Q (F0 m (pc + 3) A (st'.map (ax_v B X)))) : W p l e R s m args below meth c H locs cells slots Q (F0 m pc A (st.map (ax_v B X))) := by
  obtain ⟨n, r, rfl, hn0, hn1, er⟩ := ax_newa_inv h
  cases er
  have hsz : ax_sz (w ++ [(30 + cn, List.replicate n.toNatClampNeg Value.null)]) = ax_sz w + n.toNatClampNeg := by
    rw [ax_sz_push, ax_cs_arr (by omega)]; simp
  refine W.anew hexec hb hown hcl hov rfl hd rfl hn0 (by omega) hcells (hslots _ hsz) fun cA kA comp h1 h2 h3 h4 => ?_
  obtain ⟨kA', comp', -, -, -, hNm⟩ := (hK.2 _ _ hty).2
  have hcA : cA = D.1 (30 + cn) := Option.some.inj (h1.symm.trans hNm)
  subst hcA
  have hz := hS.1
  have hcell : ax_cell B X D (30 + cn, List.replicate n.toNatClampNeg Value.null) { cls := D.1 (30 + cn), slots := Array.replicate n.toNatClampNeg .null, vm := .none } := by
    refine ⟨rfl, rfl, ⟨rfl, rfl⟩, fun _ => ⟨⟨_, hty⟩, by simp⟩, fun q => absurd q (by show ¬ 30 + cn < 20; omega), by rw [ax_cs_arr (by omega)]; simp, fun k v hv => ?_⟩
    have hk : k < n.toNatClampNeg := by
      have := (List.getElem?_eq_some_iff.mp hv).1
      simpa using this
    have hv' : v = .null := by
      have h2 : (List.replicate n.toNatClampNeg Value.null)[k]? = some v := hv
      rw [List.getElem?_replicate, if_pos hk] at h2
      exact (Option.some.inj h2).symm
    subst hv'
    unfold ax_sx
    rw [if_pos (by show 20 ≤ 30 + cn; omega)]
    simp [hk, ax_v]
  have := kk _ n.toNatClampNeg (hS.push hcell (H' := H.push { cls := D.1 (30 + cn), slots := Array.replicate n.toNatClampNeg .null, vm := .none }) (by simp) (by simp) (fun a ha => by rw [Array.getElem?_push, if_neg (Nat.ne_of_lt ha)])) hsz (by simp)
  have e2 : (Value.ref w.length :: r).map (ax_v B X) = Value.ref H.size :: r.map (ax_v B X) := by
    simp only [List.map_cons, ax_v, hz]
  rw [e2] at this
  exact this
theorem ax_new_ok (hexec : p.tables.exec = Jvm.exec) (hb : c.code = cc) (hown : s.vm.findClass own = some m.cls) (hK : ax_K D s) (hS : ax_Sim B X D H0 w H) {kinds : List (List Nat)} {cn idx : Nat} {q : vw_C} {ks : List Nat} (hc : cls_all[cn]? = some q) (hcn : cn < 11) (hks : kinds[cn]? = some ks)
    (hcs : ax_cs (cn, ks.map ax_dfl) = q.2.2) (hle : ks.length ≤ q.2.2) (ty : Nat → FieldType) (hty : ∀ k, k < q.2.2 → parseFieldDescriptor (q.2.1 k).2.2.1 = some (ty k)) (hdf : ∀ k fk, ks[k]? = some fk → defaultValue (ty k) = ax_dfl fk)
    (hws : ∀ v ∈ u_ws q.1 q.2.1 q.2.2, v.before args s = true) (hcl : (Cond.classLink own idx q.1).before args s = true) (hins : (Cond.instantiable q.1 q.2.2).before args s = true) (hini : (Cond.initialized q.1).before args s = true)
    (hd : decode cc pc = .ok (.new idx, 3)) (h : ax_new kinds cn st w = some (st', w')) (hcells : cells + 1 ≤ R.cells) (hslots : ∀ k, ax_sz w' = ax_sz w + k → slots + k ≤ R.slots)
    (kk : ∀ (H' : Heap) (k : Nat), ax_Sim B X D H0 w' H' → ax_sz w' = ax_sz w + k → w'.length = w.length + 1 → W p l e R s m args below meth c H' locs (cells + 1) (slots + k) Q (F0 m (pc + 3) A (st'.map (ax_v B X)))) : W p l e R s m args below meth c H locs cells slots Q (F0 m pc A (st.map (ax_v B X))) := by
  unfold ax_new at h
  rw [hks] at h
  cases h
  have hsz : ax_sz (w ++ [(cn, ks.map ax_dfl)]) = ax_sz w + q.2.2 := by rw [ax_sz_push, hcs]
  have hKn := hK.1 cn q hc
  have hz := hS.1
  have hnf : ax_nf cn = q.2.2 := by unfold ax_nf; rw [hc]
  refine W.newc hexec hb hown hcl hins hini rfl hd hcells (hslots _ hsz) fun cC kC h1 h2 h3 h4 => ?_
  have hcC : cC = D.1 cn := Option.some.inj (h1.symm.trans hKn.2.1)
  subst hcC
  have hpush : (H.push { cls := D.1 cn, slots := kC.instanceTypes.map defaultValue, vm := .none })[H.size]? = some (blank (D.1 cn) kC) := by simp [blank]
  obtain ⟨cell, q1, q2, q3, q4⟩ := u_born ty hws (fun v hv => hv) hKn h2 hpush hty
  have hce : cell = blank (D.1 cn) kC := Option.some.inj (q1.symm.trans hpush)
  subst hce
  have hcell : ax_cell B X D (cn, ks.map ax_dfl) (blank (D.1 cn) kC) := by
    refine ⟨rfl, rfl, ⟨rfl, rfl⟩, fun g => absurd g (by show ¬ 20 ≤ cn; omega), fun _ => ⟨by rw [hnf]; simpa using hle, hcn⟩, by rw [hcs]; simp [blank, h4], fun k v hv => ?_⟩
    have hk2 : (ks.map ax_dfl)[k]? = some v := hv
    rw [List.getElem?_map] at hk2
    obtain ⟨fk, hfk, rfl⟩ := Option.map_eq_some_iff.mp hk2
    have hkl : k < q.2.2 := Nat.lt_of_lt_of_le (List.getElem?_eq_some_iff.mp hfk).1 hle
    unfold ax_sx
    rw [if_neg (by show ¬ 20 ≤ cn; omega), q4 k hkl]
    show some (defaultValue (ty k)) = _
    rw [hdf k fk hfk]
    unfold ax_dfl
    split <;> rfl
  have := kk _ q.2.2 (hS.push hcell (H' := H.push { cls := D.1 cn, slots := kC.instanceTypes.map defaultValue, vm := .none }) hpush (by simp) (fun a ha => by rw [Array.getElem?_push, if_neg (Nat.ne_of_lt ha)])) hsz (by simp)
  have e2 : (Value.ref w.length :: st).map (ax_v B X) = Value.ref H.size :: st.map (ax_v B X) := by
    simp only [List.map_cons, ax_v, hz]
  rw [e2] at this
  exact this
theorem ax_cell.eq {t : Nat} {vs : List Value} {cell : Cell} (h : ax_cell B X D (t, vs) cell) (ht : 20 ≤ t) : cell = arrV (D.1 t) vs.length (fun j => ax_v B X (vs.getD j .null)) := by
  obtain ⟨h1, h2, ⟨h3, h4⟩, h5, -, -, h7⟩ := h
  obtain ⟨cls, slots, monitor, hash, vm⟩ := cell
  simp only at h1 h2 h3 h4 h5 h7
  subst h1; subst h2; subst h3; subst h4
  unfold arrV
  congr 1
  apply Array.ext
  · simp [(h5 ht).2]
  · intro i hi1 hi2
    have hi : i < vs.length := by simpa using hi2
    have := h7 i vs[i] (List.getElem?_eq_getElem hi)
    unfold ax_sx at this
    rw [if_pos ht, Array.getElem?_eq_getElem hi1] at this
    rw [Option.some.inj this]
    simp [hi]
theorem ax_cpy_inv {st : List Value} {r' : List Value × ax_W} (h : ax_cpy st w = some r') : ∃ n dp b sp a r t us vs, st = .int n :: .int dp :: .ref b :: .int sp :: .ref a :: r ∧ w[a]? = some (t, us) ∧ w[b]? = some (t, vs) ∧ (t = 20 ∨ t = 21) ∧ ¬ n < 0 ∧ ¬ dp < 0 ∧ ¬ sp < 0 ∧
    sp.toNatClampNeg + n.toNatClampNeg ≤ us.length ∧ dp.toNatClampNeg + n.toNatClampNeg ≤ vs.length ∧ (∀ v ∈ (us.drop sp.toNatClampNeg).take n.toNatClampNeg, ax_is t v = true) ∧ r' = (r, w.set b (t, vs.take dp.toNatClampNeg ++ (us.drop sp.toNatClampNeg).take n.toNatClampNeg ++ vs.drop (dp.toNatClampNeg + n.toNatClampNeg))) := by
  unfold ax_cpy at h; split at h
  · rename_i n dp b sp a r
    split at h
    · rename_i t us t' vs h1 h2
      split at h
      · rename_i hc
        simp only [Bool.and_eq_true, Bool.or_eq_true, decide_eq_true_eq, beq_iff_eq, Bool.not_eq_true', decide_eq_false_iff_not] at hc
        obtain ⟨⟨⟨⟨⟨⟨⟨c1, c2⟩, c3⟩, c4⟩, c5⟩, c6⟩, c7⟩, c8⟩ := hc
        cases h
        subst c1
        exact ⟨n, dp, b, sp, a, r, t, us, vs, rfl, h1, h2, c2, c3, c4, c5, c6, c7, fun v hv => List.all_eq_true.mp c8 v hv, rfl⟩
      · cases h
    · cases h
  · cases h
theorem ax_cpy_list (us vs : List Value) {sp dp n : Nat} (h1 : sp + n ≤ us.length) (h2 : dp + n ≤ vs.length) (k : Nat) :
    (vs.take dp ++ (us.drop sp).take n ++ vs.drop (dp + n)).getD k .null = if dp ≤ k ∧ k < dp + n then us.getD (sp + (k - dp)) .null else vs.getD k .null := by
  simp only [List.getD_eq_getElem?_getD]
  congr 1
  have e1 : (vs.take dp).length = dp := by simp; omega
  have e2 : ((us.drop sp).take n).length = n := by simp; omega
  by_cases hk : k < dp
  · rw [if_neg (by omega), List.append_assoc, List.getElem?_append_left (by omega), List.getElem?_take_of_lt hk]
  · by_cases hk2 : k < dp + n
    · rw [if_pos ⟨by omega, hk2⟩, List.append_assoc, List.getElem?_append_right (by omega), e1, List.getElem?_append_left (by omega), List.getElem?_take_of_lt (by omega), List.getElem?_drop]
    · rw [if_neg (by omega), List.getElem?_append_right (by rw [List.length_append]; omega), List.getElem?_drop, List.length_append, e1, e2, show dp + n + (k - (dp + n)) = k from by omega]
/-- what the machine needs of a word of two slots -/
theorem ax_wt_cat (hX : ax_Xr X) (v : Value) : (ax_v B X v).category = ax_wt v := by
  cases v with
  | retAddr k => obtain ⟨a, ha⟩ := hX k; simp [ax_v, ha, Value.category, ax_wt, ax_c1]
  | _ => rfl
theorem ax_wt_sum (hX : ax_Xr X) (st : List Value) : ((st.map (ax_v B X)).map fun v => v.category).sum = (st.map ax_wt).sum := by
  induction st with
  | nil => rfl
  | cons v r ih => simp only [List.map_cons, List.sum_cons, ih, ax_wt_cat hX]
theorem ax_copy_ok (hX : ax_Xr X) (hexec : p.tables.exec = Jvm.exec) (hb : c.code = cc) (hml : c.maxLocals = A.size) (hown : s.vm.findClass own = some m.cls) (hK : ax_K D s) (hS : ax_Sim B X D H0 w H) {idx : Nat}
    (hlink : (Cond.methodLink own idx arraycopyName).before args s = true) (hnat : (Cond.native arraycopyName).before args s = true) (hstat : (Cond.static arraycopyName).before args s = true) (hini : (Cond.initialized "java/lang/System").before args s = true)
    (hd : decode cc pc = .ok (.invokestatic idx, 3)) (hfr : 1 ≤ R.frames) (hlo : 100 ≤ R.locals) (hwt : (st.map ax_wt).sum ≤ 18) (h : ax_cpy st w = some (st', w'))
    (kk : ∀ (H' : Heap) (L : List Loc), ax_Sim B X D H0 w' H' → (∀ q ∈ L, B ≤ q.base) → W p l e R s m args below meth c H' (locs ++ L) cells slots Q (F0 m (pc + 3) A (st'.map (ax_v B X)))) : W p l e R s m args below meth c H locs cells slots Q (F0 m pc A (st.map (ax_v B X))) := by
  obtain ⟨n, dp, b, sp, a, r, t, us, vs, rfl, hwa, hwb, ht, h1, h2, h3, h4, h5, hall, er⟩ := ax_cpy_inv h
  cases er
  have h20 : 20 ≤ t := by omega
  obtain ⟨ca, a1, a2⟩ := hS.2.1 a _ hwa
  obtain ⟨cb, b1, b2⟩ := hS.2.1 b _ hwb
  obtain ⟨⟨ty, hty⟩, hza⟩ := a2.2.2.2.1 h20
  obtain ⟨-, hzb⟩ := b2.2.2.2.1 h20
  obtain ⟨-, ka, hka, compa, hkinda⟩ := a2.arr hK hty
  obtain ⟨-, kb, hkb, compb, hkindb⟩ := b2.arr hK hty
  intro T hT XX
  have hprim : refKind ty = false := by
    rcases ht with rfl | rfl <;> cases hty <;> rfl
  have hval : ∀ i, i < n.toNatClampNeg → ca.slots.getD (sp.toNatClampNeg + i) .null = ax_v B X (us.getD (sp.toNatClampNeg + i) .null) := fun i hi => by
    have hl : sp.toNatClampNeg + i < us.length := by omega
    have hs := ax_slt a2 h20 (List.getElem?_eq_getElem hl)
    rw [Array.getD_eq_getD_getElem?, hs, List.getD_eq_getElem?_getD, List.getElem?_eq_getElem hl]
    rfl
  have hfitv : ∀ i, i < n.toNatClampNeg → fits ty (ca.slots.getD (sp.toNatClampNeg + i) .null) = true ∧ ∀ U : State, U.takes compb (ca.slots.getD (sp.toNatClampNeg + i) .null) := fun i hi => by
    have hl : sp.toNatClampNeg + i < us.length := by omega
    rw [hval i hi]
    have hmem : us[sp.toNatClampNeg + i] ∈ (us.drop sp.toNatClampNeg).take n.toNatClampNeg := by
      refine List.mem_of_getElem? (i := i) ?_
      rw [List.getElem?_take_of_lt hi, List.getElem?_drop, List.getElem?_eq_getElem hl]
    have hiss := hall _ hmem
    rw [List.getD_eq_getElem?_getD, List.getElem?_eq_getElem hl]
    simp only [Option.getD_some]
    generalize us[sp.toNatClampNeg + i] = v at hiss
    rcases ht with rfl | rfl
    · cases hty
      cases v <;> first | exact ⟨rfl, fun U => trivial⟩ | simp [ax_is] at hiss
    · cases hty
      cases v <;> first | exact ⟨rfl, fun U => trivial⟩ | simp [ax_is] at hiss
  obtain ⟨vm', X', step⟩ := XX.arraycopy hexec hown hlink hnat hstat hini (src := B + a) (dst := B + b) (cs := ca) (cd := cb) (srcPos := sp) (destPos := dp) (n := n) (by rw [hT]; exact a1) (by rw [hT]; exact b1)
    (fun z hz => by rw [a2.2.1] at hz; cases hz) (fun z hz => by rw [b2.2.1] at hz; cases hz) a2.known b2.known hka hkb hkinda hkindb (by simp [hprim]) h3 h2 h1
    (by rw [ax_nat_of h3, ax_nat_of h1, hza]; show ¬ _ > ((us.length : Nat) : Int); omega)
    (by rw [ax_nat_of h2, ax_nat_of h1, hzb]; show ¬ _ > ((vs.length : Nat) : Int); omega)
    (fun vm₁ _ i hi => ⟨(hfitv i hi).1, (hfitv i hi).2 _⟩)
    (g := F0 m pc A ((Value.int n :: .int dp :: .ref b :: .int sp :: .ref a :: st').map (ax_v B X))) rfl (by rw [hml]) (rest := st'.map (ax_v B X)) rfl (by rw [hb]; exact hd) hfr (by
      have hs : ((st'.map (ax_v B X)).map fun v => v.category).sum ≤ 18 := by
        rw [ax_wt_sum hX]
        simp only [List.map_cons, List.sum_cons] at hwt
        omega
      have hnw : nativeFrameWords "java/lang/System" "arraycopy" 5 ≤ 40 := by decide +kernel
      show 2 * 0 + _ + _ ≤ _
      omega)
  have e1 : copied ca cb sp dp n = arrV (D.1 t) vs.length (fun j => ax_v B X ((vs.take dp.toNatClampNeg ++ (us.drop sp.toNatClampNeg).take n.toNatClampNeg ++ vs.drop (dp.toNatClampNeg + n.toNatClampNeg)).getD j .null)) := by
    have := va_copied (fun z : Value => ax_v B X z) (D.1 t) (D.1 t) (n0 := us.length) (n1 := vs.length) (sp := sp.toNatClampNeg) (dp := dp.toNatClampNeg) (n := n.toNatClampNeg) (fun j => us.getD j .null) (fun j => vs.getD j .null) h4
    rw [← a2.eq h20, ← b2.eq h20] at this
    refine Eq.trans this ?_
    congr 1
    funext j
    congr 1
    rw [ax_cpy_list us vs h4 h5]
    rfl
  rw [e1] at X' step
  have hlen : (vs.take dp.toNatClampNeg ++ (us.drop sp.toNatClampNeg).take n.toNatClampNeg ++ vs.drop (dp.toNatClampNeg + n.toNatClampNeg)).length = vs.length := by simp; omega
  have hcell : ax_cell B X D (t, vs.take dp.toNatClampNeg ++ (us.drop sp.toNatClampNeg).take n.toNatClampNeg ++ vs.drop (dp.toNatClampNeg + n.toNatClampNeg)) (arrV (D.1 t) vs.length (fun j => ax_v B X ((vs.take dp.toNatClampNeg ++ (us.drop sp.toNatClampNeg).take n.toNatClampNeg ++ vs.drop (dp.toNatClampNeg + n.toNatClampNeg)).getD j .null))) := by
    refine ⟨rfl, rfl, ⟨rfl, rfl⟩, fun _ => ⟨⟨ty, hty⟩, by rw [arrV_size]; exact hlen.symm⟩, fun q => absurd q (by show ¬ t < 20; omega), by rw [arrV_size, ax_cs_arr h20]; exact hlen.symm, fun k v hv => ?_⟩
    have hk : k < vs.length := by
      have := (List.getElem?_eq_some_iff.mp hv).1
      rw [hlen] at this
      exact this
    unfold ax_sx
    rw [if_pos h20, arrV_read _ _ hk]
    congr 2
    rw [List.getD_eq_getElem?_getD, show (vs.take dp.toNatClampNeg ++ (us.drop sp.toNatClampNeg).take n.toNatClampNeg ++ vs.drop (dp.toNatClampNeg + n.toNatClampNeg))[k]? = some v from hv]
    rfl
  generalize arrV (D.1 t) vs.length (fun j => ax_v B X ((vs.take dp.toNatClampNeg ++ (us.drop sp.toNatClampNeg).take n.toNatClampNeg ++ vs.drop (dp.toNatClampNeg + n.toNatClampNeg)).getD j .null)) = cell' at X' step hcell
  have hl : B + b < H.size := (Array.getElem?_eq_some_iff.mp b1).1
  have hil : b < w.length := (List.getElem?_eq_some_iff.mp hwb).1
  obtain ⟨tt, z1, z2⟩ := kk (H.setIfInBounds (B + b) cell') _ (hS.set (H' := H.setIfInBounds (B + b) cell') hil hcell (by simp [Array.getElem?_setIfInBounds, hl]) (by simp) (fun q hq => by simp [Array.getElem?_setIfInBounds, Ne.symm hq])) (fun q hq => by
      obtain ⟨z, -, hz⟩ := List.mem_map.mp hq
      rw [← hz]
      exact Nat.le_add_right _ _) _ (by rw [← hT]; rfl) X'
  exact ⟨tt, step tt z1, z2⟩
end AX6
