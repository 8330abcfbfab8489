/-! THE CLAIM OUT OF ONE RUN OF THE ABSTRACT MACHINE (the skeleton's rows, with what a start gives beside) -/
def R_law : String := "MatrixDeskLaw"
def lw_P (b : Addr) (xs : List Int32) (args : Array Value) (s : State) : Prop := args = #[.ref b] ∧ s.IntsAt b xs ∧ xs.length ≤ 3072 ∧ (Jvm.Cond.and given_1 narrow_1).before args s = true
def lw_Q (_ : Array Value) (s : State) (o : Outcome) (t : State) : Prop := o = .returned (some (.int 1)) ∧ Framed s o t [] 601024 7293034
def lw_Z (below : List Frame) (a : Array Value) (s : State) : State → Prop := fun t => ∃ o, t.status = .running ∧ Ended t below o ∧ lw_Q a s o t
def lw_At (p : Program) (s : State) (m : MethodId) (meth : Method) (c : Code) (b L : Nat) (xs : Nat → Int32) : Prop :=
  p.tables.exec = Jvm.exec ∧ c.code = code ∧ meth.sig.returnType = ret ∧ c.maxLocals = 8 ∧ s.vm.findClass R_law = some m.cls ∧ (∀ w ∈ lw_tbl, w.before #[Value.ref b] s = true) ∧ va_X b L xs s s.heap ∧ b < s.heap.size ∧ meth.locks = false ∧ (Jvm.Cond.and given_1 narrow_1).before #[Value.ref b] s = true ∧ meth.name = "law" ∧ c.exceptionTable.toList = []
/-- the fields' names differ -/
def ax_nok (c : Nat) : Bool := match cls_all[c]? with
  | some q => (List.range q.2.2).all (fun a => (List.range q.2.2).all (fun b => decide (a = b) || decide ((q.2.1 a).2.1 ≠ (q.2.1 b).2.1)))
  | none => true
set_option maxRecDepth 100000 in
theorem ax_nall : (List.range 11).all ax_nok = true := by decide +kernel
theorem ax_apOf {s : State} {args : Array Value} {D : va_G} (hts : ∀ w ∈ lw_tbl, w.before args s = true) (hK : ax_K D s) : ax_ap D := by
  intro t ht a b ha hb hab
  by_cases h11 : t < 11
  · obtain ⟨q, hq⟩ : ∃ q, cls_all[t]? = some q := ⟨cls_all[t]'(by show t < 11; exact h11), List.getElem?_eq_getElem _⟩
    have hnf : ax_nf t = q.2.2 := by unfold ax_nf; rw [hq]
    rw [hnf] at ha hb
    obtain ⟨ks, hks⟩ := ax_kinds_some h11
    have hsp := ax_kspec h11 hq hks
    have hn := List.all_eq_true.mp ax_nall t (List.mem_range.mpr h11)
    unfold ax_nok at hn
    rw [hq] at hn
    simp only [List.all_eq_true, List.mem_range, Bool.or_eq_true, decide_eq_true_eq] at hn
    exact va_apart (own := "") (D := D) (cl := cls_all) (tys := []) (ci := t) hts (fun v hv => (hsp.2.2.2.2 v hv).1) (fun k => (parseFieldDescriptor (q.2.1 k).2.2.1).getD .int) (fun k hk => by
      obtain ⟨ty, hty⟩ := Option.isSome_iff_exists.mp (hsp.2.2.2.1 k hk)
      rw [hty]; rfl) (fun x hx y hy hxy => (hn x hx y hy).resolve_left hxy) ⟨fun c q hq => hK.1 c q hq, fun k q hk => by simp at hk⟩ hq a b ha hb hab
  · have : ax_nf t = 0 := by
      unfold ax_nf
      rw [List.getElem?_eq_none (by show 11 ≤ t; omega)]
    omega
set_option maxRecDepth 100000 in
theorem ax_inst : ∀ c, c < 11 → ∀ q, cls_all[c]? = some q → Cond.instantiable q.1 q.2.2 ∈ lw_tbl := by
  have h : (List.range 11).all (fun c => match cls_all[c]? with | some q => decide (Cond.instantiable q.1 q.2.2 ∈ lw_tbl) | none => true) = true := by decide +kernel
  intro c hc q hq
  have := List.all_eq_true.mp h c (List.mem_range.mpr hc)
  rw [hq] at this
  simpa using this
set_option maxRecDepth 100000 in
theorem ax_over : Cond.arrayOver (.object "MatrixDesk$Matrix") ∈ lw_tbl ∧ Cond.arrayOver (.object "MatrixDesk$Row") ∈ lw_tbl ∧ Cond.arrayOver (.object "MatrixDesk$Whole") ∈ lw_tbl := by decide +kernel
/-- the tables give the classes and the slots of their fields -/
theorem ax_KOf {s : State} {args : Array Value} (hts : ∀ w ∈ lw_tbl, w.before args s = true) : ∃ D : va_G, ax_K D s := by
  have h1 : ∀ c : Nat, ∃ r : ClassId × (Nat → Nat), ∀ q, cls_all[c]? = some q → u_Kn s q.1 q.2.1 q.2.2 r.1 r.2 := by
    intro c
    by_cases hc : c < 11
    · obtain ⟨q, hq⟩ : ∃ q, cls_all[c]? = some q := ⟨cls_all[c]'(by show c < 11; exact hc), List.getElem?_eq_getElem _⟩
      obtain ⟨ks, hks⟩ := ax_kinds_some hc
      have hsp := ax_kspec hc hq hks
      obtain ⟨cC, iS, h⟩ := u_known (ws := lw_tbl) (T := q.2.1) (N := q.2.2) hts (fun v hv => (hsp.2.2.2.2 v hv).1) (hts _ (ax_inst c hc q hq))
      exact ⟨(cC, iS), fun q' hq' => by cases hq.symm.trans hq'; exact h⟩
    · exact ⟨(0, fun _ => 0), fun q hq => absurd (List.getElem?_eq_some_iff.mp hq).1 (by show ¬ c < 11; exact hc)⟩
  have h2 : ∀ t : Nat, ∃ cA : ClassId, ∀ ty, ax_ty t = some ty → ArrOfT s cA ty ∧ va_RA s cA ty := by
    intro t
    have prim : ∀ ty, ty ∈ ([.int, .long, .char, .boolean] : List FieldType) → ∃ cA, ArrOfT s cA ty ∧ va_RA s cA ty := by
      intro ty hty
      obtain ⟨cA, kA, comp, g1, g2, g3⟩ := Cond.arrayClass_spec (hts _ (ax_arrays ty hty))
      refine ⟨cA, fun n z => ⟨fun k h => (by cases h), kA, g2, comp, g3⟩, ?_⟩
      simp only [List.mem_cons, List.not_mem_nil, or_false] at hty
      rcases hty with rfl | rfl | rfl | rfl <;> exact g1
    have refs : ∀ C, Cond.arrayOver (.object C) ∈ lw_tbl → ∃ cA, ArrOfT s cA (.object C) ∧ va_RA s cA (.object C) := by
      intro C hC
      obtain ⟨comp, cA, kA, g1, -, g3, g4, g5⟩ := Cond.arrayOver_spec (hts _ hC)
      exact ⟨cA, fun n z => ⟨fun k h => (by cases h), kA, g3, comp, g4⟩, kA, comp, g3, g4, g1, g5⟩
    have pick : ∀ ty, ax_ty t = some ty → (∃ cA, ArrOfT s cA ty ∧ va_RA s cA ty) → ∃ cA : ClassId, ∀ ty, ax_ty t = some ty → ArrOfT s cA ty ∧ va_RA s cA ty := fun ty hty ⟨cA, h⟩ => ⟨cA, fun ty' hty' => by cases hty.symm.trans hty'; exact h⟩
    cases hty : ax_ty t with
    | none => exact ⟨0, fun ty h => by cases h⟩
    | some ty =>
      rw [← hty]
      refine pick ty hty ?_
      unfold ax_ty at hty
      split at hty <;> cases hty
      · exact prim _ (by simp)
      · exact prim _ (by simp)
      · exact prim _ (by simp)
      · exact prim _ (by simp)
      · exact refs _ ax_over.1
      · exact refs _ ax_over.2.1
      · exact refs _ ax_over.2.2
  obtain ⟨f, hf⟩ := Classical.axiomOfChoice h1
  obtain ⟨g, hg⟩ := Classical.axiomOfChoice h2
  refine ⟨(fun t => if t < 20 then (f t).1 else g t, fun t => (f t).2), fun c q hq => ?_, fun t ty hty => ?_⟩
  · have hc : c < 11 := (List.getElem?_eq_some_iff.mp hq).1
    show u_Kn s q.1 q.2.1 q.2.2 (if c < 20 then (f c).1 else g c) (f c).2
    rw [if_pos (by omega)]
    exact hf c q hq
  · have ht : ¬ t < 20 := by
      unfold ax_ty at hty
      split at hty <;> first | (intro h; exact absurd h (by decide)) | cases hty
    show ArrOfT s (if t < 20 then (f t).1 else g t) ty ∧ va_RA s (if t < 20 then (f t).1 else g t) ty
    rw [if_neg ht]
    exact hg t ty hty
set_option maxRecDepth 100000 in
theorem ax_un : Cond.laysStatic "MatrixDesk" "UNITS" "[I" ∈ lw_tbl ∧ Cond.initialized "MatrixDesk" ∈ lw_tbl ∧ (∀ k, 2 ≤ k → k < 6 → Cond.stringRef "MatrixDesk" (ax_ix k) (ax_txt k) ∈ lw_tbl) := by
  refine ⟨by decide +kernel, by decide +kernel, ?_⟩
  have h : ([2, 3, 4, 5] : List Nat).all (fun k => decide (Cond.stringRef "MatrixDesk" (ax_ix k) (ax_txt k) ∈ lw_tbl)) = true := by decide +kernel
  intro k h2 h6
  have := List.all_eq_true.mp h k (by simp; omega)
  simpa using this
theorem ax_startG {p : Program} {s : State} {m : MethodId} {meth : Method} {c : Code} {b L : Nat} {xs : Nat → Int32} (C0 : lw_At p s m meth c b L xs) :
    ∃ (D : va_G) (X : Nat → Value), ax_G s #[Value.ref b] D s.heap.size X s.heap ((List.range L).map xs) ∧ ax_NC D s ∧ X 0 = .ref b ∧ (Cond.isRef (.static Bundle.tN "UNASSIGNED_STACK" Bundle.steD)).before #[Value.ref b] s = true ∧ (Cond.isRef (.static Bundle.tN "SUPPRESSED_SENTINEL" Bundle.listD)).before #[Value.ref b] s = true := by
  obtain ⟨-, -, -, -, -, hts, hX, hb, -, hgv, -⟩ := C0
  have hs := flat_of_before _ hgv
  obtain ⟨D, hK⟩ := ax_KOf hts
  have hA : ∀ a : Nat, a < s.heap.size → ¬ (fun q => s.heap.size ≤ q) a := fun a ha => by show ¬ s.heap.size ≤ a; omega
  obtain ⟨tu, htu, hTu⟩ := va_Tof (args := #[Value.ref b]) (s := s) (tm := .static "MatrixDesk" "UNITS" "[I") (ty := .int) (N := 9) (f := fun j => .int (ax_units.getD j 0)) (A := fun q => s.heap.size ≤ q) (by decide) (hs _ (by decide +kernel)) (va_eqt (hs _ (by decide +kernel))) (fun j hj => by
    have h9 : ∀ j, j < 9 → Cond.eq (.elem (.static "MatrixDesk" "UNITS" "[I") (.int (Int32.ofNat j))) (.int (ax_units.getD j 0)) ∈ flatC (Jvm.Cond.and given_1 narrow_1) := by decide +kernel
    exact va_eqt (hs _ (h9 j hj))) hA
  have hZ := va_Zof (A := fun q => s.heap.size ≤ q) (hts _ ax_un.1) (hts _ ax_un.2.1) htu hA
  have hstr : ∀ k, ∃ a, 2 ≤ k → k < 6 → vk_R "MatrixDesk" (ax_ix k) (ax_txt k) a s := by
    intro k
    by_cases hk : 2 ≤ k ∧ k < 6
    · have hex : ∀ k, 2 ≤ k → k < 6 → Cond.exactly (.string "MatrixDesk" (ax_ix k)) "java/lang/String" ∈ flatC (Jvm.Cond.and given_1 narrow_1) := by
        have h : ([2, 3, 4, 5] : List Nat).all (fun k => decide (Cond.exactly (.string "MatrixDesk" (ax_ix k)) "java/lang/String" ∈ flatC (Jvm.Cond.and given_1 narrow_1))) = true := by decide +kernel
        intro k h2 h6
        have := List.all_eq_true.mp h k (by simp; omega)
        simpa using this
      obtain ⟨a, c1, cA, kA, q1, -⟩ := Cond.exactly_spec (args := #[Value.ref b]) (first := s) (o := none) (s := s) (idx := []) (hs _ (hex k hk.1 hk.2))
      exact ⟨a, fun _ _ => vk_R.of (hts _ (ax_un.2.2 k hk.1 hk.2)) q1⟩
    · exact ⟨0, fun h1 h2 => absurd ⟨h1, h2⟩ hk⟩
  obtain ⟨sa, hsa⟩ := Classical.axiomOfChoice hstr
  refine ⟨D, fun k => if k = 0 then .ref b else if k = 1 then .ref tu else .ref (sa k), ⟨hts, hK, ax_apOf hts hK, fun k => ?_, fun k ys hk => ?_, rfl, hZ, fun k h2 h6 => ?_⟩, ?_, rfl, hs _ (by decide +kernel), hs _ (by decide +kernel)⟩
  · by_cases h0 : k = 0
    · exact ⟨b, if_pos h0⟩
    · by_cases h1 : k = 1
      · exact ⟨tu, (if_neg h0).trans (if_pos h1)⟩
      · exact ⟨sa k, (if_neg h0).trans (if_neg h1)⟩
  · unfold ax_ext at hk
    split at hk
    · cases hk
      obtain ⟨scr, g1, g2, g3, g4, g5⟩ := hX
      refine ⟨b, scr, rfl, hb, g1, g2, g3, ⟨by rw [g4]; simp, by rw [g4]; simp⟩, fun j y hy => ?_⟩
      rw [List.getElem?_map] at hy
      obtain ⟨j', hj', rfl⟩ := Option.map_eq_some_iff.mp hy
      have hjl : j < L := by
        have := (List.getElem?_eq_some_iff.mp hj').1
        simpa using this
      rw [List.getElem?_range hjl] at hj'
      cases hj'
      exact g5 j hjl
    · cases hk
      obtain ⟨cell, g1, g2, g3, g4, g5, g6, g7⟩ := hTu
      refine ⟨tu, cell, rfl, (Array.getElem?_eq_some_iff.mp g1).1, g1, g2, g3, ⟨g4, g5⟩, fun j y hy => ?_⟩
      have hjl : j < 9 := (List.getElem?_eq_some_iff.mp hy).1
      rw [g6 j hjl]
      show some (Value.int (ax_units.getD j 0)) = _
      rw [List.getD_eq_getElem?_getD, hy]
      rfl
    · cases hk
  · refine ⟨sa k, ?_, hsa k h2 h6⟩
    show (if k = 0 then Value.ref b else if k = 1 then .ref tu else .ref (sa k)) = _
    rw [if_neg (by omega), if_neg (by omega)]
  · have hc9 : s.vm.findClass R_Io = some (D.1 9) := (hK.1 9 _ rfl).2.1
    have hc10 : s.vm.findClass R_Ia = some (D.1 10) := (hK.1 10 _ rfl).2.1
    have n1 : (Cond.not (Cond.castable R_Io R_Ia)).before #[Value.ref b] s = true := hs _ (by decide +kernel)
    have n2 : (Cond.not (Cond.castable R_Ia R_Io)).before #[Value.ref b] s = true := hs _ (by decide +kernel)
    simp only [Cond.before, Cond.holds, Cond.value, hc9, hc10] at n1 n2
    constructor
    · simpa using n1
    · simpa using n2
/-- what is wanted of the abstract machine: on every script it runs the law to its end, with 1, in the room -/
def ax_Good (xs : List Int32) : Prop := ∃ (f : Nat) (w' : ax_W), ax_run xs f 12 502 185 0 (ax_ent [.retAddr 0] 8) [] [] = some (.returned (some (.int 1)), w') ∧ w'.length ≤ 601024 ∧ ax_sz w' ≤ 7293034
theorem ax_toW {p : Program} {e : Env} {s : State} {m : MethodId} {below : List Frame} {meth : Method} {c : Code} (l : Launch) (hfl : l.flags = flags0) {b L : Nat} {xs : Nat → Int32} (C0 : lw_At p s m meth c b L xs) (hg : ax_Good ((List.range L).map xs)) :
    W p l e room_1 s m #[Value.ref b] below meth c s.heap [] 0 0 (lw_Z below #[Value.ref b] s) (entryFrame m ([Value.ref b] : List Value).toArray 8) := by
  obtain ⟨D, X, G, hnc, hX0, hr1, hr2⟩ := ax_startG C0
  obtain ⟨f, w', hr, hc1, hc2⟩ := hg
  have hEx := ax_excLaw (l := l) G rfl (fun e' he => by
    have h1 : e'.platform.stackTraces = l.stackTraces := by rw [he.platform]
    rw [h1, Launch.stackTraces, hfl]
    decide) hr1 hr2
  have hCa := ax_catchLaw (l := l) G hnc
  have hS0 : ax_Sim s.heap.size X D s.heap [] s.heap := ⟨by simp, fun i q h => by simp at h, fun a ha => rfl⟩
  obtain ⟨a1, a2, a3, a4, a5, a6, a7, a8, a9, a10, a11, a12⟩ := C0
  have hFr : ax_Fr s ⟨"MatrixDeskLaw", "law", "([I)Z"⟩ code 8 (some .boolean) (ax_ht []) p s m meth c := ⟨a1, a2, a4, a3, a9, a5, a11, by rw [a12]; rfl, State.WarmedH.refl s⟩
  have hW := ax_sound G hEx hCa f 12 502 185 0 (ax_ent [.retAddr 0] 8) [] [] _ w' hr p e room_1 s m #[Value.ref b] below meth c s.heap [] 0 0 _ (k_La_law, 8, 2, []) (⟨"MatrixDeskLaw", "law", "([I)Z"⟩, code, some .boolean, 0) rfl rfl hFr (fun a _ => rfl) hS0 (ax_entL G.2.2.2.1 [.retAddr 0] (by decide)) (fun q hq => absurd hq List.not_mem_nil) (Nat.le_refl _) (Nat.le_refl _)
    (by show 0 + w'.length ≤ 601024 + 0; omega) (by show 0 + ax_sz w' ≤ 7293034 + 0; omega)
  rw [lg_entry_eq]
  have e1 : ([.retAddr 0] : List Value).map (ax_v s.heap.size X) = [Value.ref b] := by simp [ax_v, hX0]
  rw [e1] at hW
  refine ax_Wm (fun t ht => ?_) hW
  obtain ⟨L', k, n, q0, q00, q1, q2, q3, q4, q5, q6⟩ := ht
  refine ⟨_, q1, q2, rfl, ⟨_, rfl⟩, q3, q4.weaken (fun x hx hlt => absurd (q6 x hx) (Nat.not_le.mpr hlt)) ?_ ?_⟩
  · simp only [List.length_nil] at q0
    omega
  · have : ax_sz ([] : ax_W) = 0 := rfl
    omega
