/-! the law of an exception's constructor with a text, out of the library's -/
def ax_kx (w : Jvm.Cond) : Bool := match w with
  | .declares _ => true
  | .laysStatic .. => true
  | w => ax_keep w
theorem ax_laysStatic {s0 s : State} {A0 args : Array Value} {C n d : String} (hW : s0.WarmedH s.vm) (hH : ∀ a, a < s0.heap.size → s.heap[a]? = s0.heap[a]?) (h : (Cond.laysStatic C n d).before A0 s0 = true) : (Cond.laysStatic C n d).before args s = true := by
  obtain ⟨c, k, i, f, a, cell, hc, hi, hst, ha, hcell, hs, hcls, hlt, hty⟩ := Cond.laysStatic_spec h
  obtain ⟨k', hi', he⟩ := State.fieldFound?_setVm (s := s0) hW.alike hi
  have hi2 : s.fieldFound? C n d = some (c, k', i, f) := by simpa only [State.fieldFound?, State.vm_setVm] using hi'
  have hcell2 : s.heap[a]? = some cell := by rw [hH a (Array.getElem?_eq_some_iff.mp hcell).1]; exact hcell
  have hc2 : s.vm.findClass C = some c := by rw [hW.alike.findClass]; exact hc
  have ha2 : k'.statics = some a := by rw [he]; exact ha
  have hty2 : k'.staticTypes[f.slot]? = some f.type := by rw [he]; exact hty
  simp [Cond.before, Cond.holds, Cond.value, hc2, hi2, hst, ha2, hcell2, hs, hcls, hlt, hty2]
theorem ax_isRefS {s0 s : State} {A0 args : Array Value} {C n d : String} (hW : s0.WarmedH s.vm) (hH : ∀ a, a < s0.heap.size → s.heap[a]? = s0.heap[a]?) (h : (Cond.laysStatic C n d).before A0 s0 = true) (hr : (Cond.isRef (.static C n d)).before A0 s0 = true) : (Cond.isRef (.static C n d)).before args s = true := by
  obtain ⟨c, k, i, f, a, cell, hc, hi, hst, ha, hcell, hs, hcls, hlt, hty⟩ := Cond.laysStatic_spec h
  obtain ⟨k', hi', he⟩ := State.fieldFound?_setVm (s := s0) hW.alike hi
  have hi2 : s.fieldFound? C n d = some (c, k', i, f) := by simpa only [State.fieldFound?, State.vm_setVm] using hi'
  have hcell2 : s.heap[a]? = some cell := by rw [hH a (Array.getElem?_eq_some_iff.mp hcell).1]; exact hcell
  have ha2 : k'.statics = some a := by rw [he]; exact ha
  have e0 : (Term.static C n d).eval A0 s0 none [] s0 = cell.slots[f.slot]? := by simp [Term.eval, State.fieldNamed?, hi, hst, ha, hcell, hs]
  have e1 : (Term.static C n d).eval args s none [] s = cell.slots[f.slot]? := by simp [Term.eval, State.fieldNamed?, hi2, hst, ha2, hcell2, hs]
  simp only [Cond.before, Cond.holds, Cond.value] at hr ⊢
  rw [e1]
  rw [e0] at hr
  exact hr
/-- the address of a class's statics is old -/
theorem ax_staticsOld {s0 s : State} {A0 : Array Value} {C n d : String} (hW : s0.WarmedH s.vm) (h : (Cond.laysStatic C n d).before A0 s0 = true) {c : ClassId} {k : Class} {a : Nat} (hc : s.vm.findClass C = some c) (hk : s.vm.classes[c]? = some k) (ha : k.statics = some a) : a < s0.heap.size := by
  obtain ⟨c0, k0, i, f, a0, cell, hc0, hi, hst, ha0, hcell, hs, hcls, hlt, hty⟩ := Cond.laysStatic_spec h
  have hk0 := (State.fieldFound?_spec hi).1
  have e1 : c = c0 := Option.some.inj (hc.symm.trans (by rw [hW.alike.findClass]; exact hc0))
  subst e1
  obtain ⟨k', hk', he⟩ := hW.alike.2.2 _ _ hk0
  cases hk.symm.trans hk'
  have e2 : a = a0 := by
    have : k.statics = some a0 := by rw [he]; exact ha0
    exact Option.some.inj (ha.symm.trans this)
  subst e2
  exact (Array.getElem?_eq_some_iff.mp hcell).1
def ax_names : List String := ["java/lang/RuntimeException", "java/lang/Exception"]
set_option maxRecDepth 100000 in
theorem ax_xw1 : Bundle.throwableAtoms.all (fun w => decide (w ∈ lw_tbl) && ax_kx w) = true := by decide +kernel
set_option maxRecDepth 100000 in
theorem ax_xw2 : Bundle.throwableSAtoms.all (fun w => decide (w ∈ lw_tbl) && ax_kx w) = true := by decide +kernel
set_option maxRecDepth 100000 in
theorem ax_xw3 : (Bundle.chainSAtoms R_Io ax_names).all (fun w => decide (w ∈ lw_tbl) && ax_kx w) = true := by decide +kernel
set_option maxRecDepth 100000 in
theorem ax_xw4 : (Bundle.chainSAtoms R_Ia ax_names).all (fun w => decide (w ∈ lw_tbl) && ax_kx w) = true := by decide +kernel
def ax_xws (C : String) : List Jvm.Cond := [.instantiable C 6, .selects C Bundle.tFill0 Bundle.tFill0, .selects C Bundle.tFill Bundle.tFill, .lays C Bundle.tN "cause" "Ljava/lang/Throwable;", .lays C Bundle.tN "stackTrace" Bundle.steD, .lays C Bundle.tN "suppressedExceptions" Bundle.listD, .lays C Bundle.tN "detailMessage" "Ljava/lang/String;", .lays C Bundle.tN "backtrace" "Ljava/lang/Object;",
  .fieldLink Bundle.tN 198 Bundle.tN "backtrace" "Ljava/lang/Object;", .lays Bundle.tN Bundle.tN "backtrace" "Ljava/lang/Object;"]
set_option maxRecDepth 100000 in
theorem ax_xw5 : (ax_xws R_Io).all (fun w => decide (w ∈ lw_tbl) && ax_kx w) = true := by decide +kernel
set_option maxRecDepth 100000 in
theorem ax_xw6 : (ax_xws R_Ia).all (fun w => decide (w ∈ lw_tbl) && ax_kx w) = true := by decide +kernel
theorem ax_xfit : Bundle.fit R_Io = true ∧ Bundle.fit R_Ia = true ∧ ∀ n ∈ ax_names, Bundle.fit n = true := by decide +kernel
theorem ax_wordX {s0 : State} {A0 : Array Value} {D : va_G} {B : Nat} {X : Nat → Value} {H0 : Heap} {xs : List Int32} (G : ax_G s0 A0 D B X H0 xs) {s : State} (hW : s0.WarmedH s.vm) (hH : ∀ a, a < s0.heap.size → s.heap[a]? = s0.heap[a]?) {args : Array Value} {w : Jvm.Cond} (h : (decide (w ∈ lw_tbl) && ax_kx w) = true) : w.before args s = true := by
  simp only [Bool.and_eq_true, decide_eq_true_eq] at h
  obtain ⟨hm, hk⟩ := h
  have h0 := G.1 w hm
  unfold ax_kx at hk
  split at hk
  · refine va_tabs rfl (rfl : (s0.setVm s.vm).vm = s.vm) (A := A0) ?_
    rw [Cond.declares_setVm hW.alike]
    exact h0
  · exact ax_laysStatic hW hH h0
  · exact G.word hW hm hk
theorem ax_xcls {t : Nat} (ht : t = 9 ∨ t = 10) : ∃ C T, cls_all[t]? = some (C, T, 6) ∧ (ax_xws C).all (fun w => decide (w ∈ lw_tbl) && ax_kx w) = true ∧ (Bundle.chainSAtoms C ax_names).all (fun w => decide (w ∈ lw_tbl) && ax_kx w) = true ∧ Bundle.fit C = true ∧ ax_xn t = Bundle.initS C ∧ T 4 = ("java/lang/Throwable", "backtrace", "Ljava/lang/Object;", false) := by
  rcases ht with rfl | rfl
  · exact ⟨R_Io, F_Io, rfl, ax_xw5, ax_xw3, ax_xfit.1, rfl, rfl⟩
  · exact ⟨R_Ia, F_Ia, rfl, ax_xw6, ax_xw4, ax_xfit.2.1, rfl, rfl⟩
set_option maxHeartbeats 4000000 in
theorem ax_excLaw {l : Launch} {s0 : State} {A0 : Array Value} {D : va_G} {B : Nat} {X : Nat → Value} {H0 : Heap} {xs : List Int32} (G : ax_G s0 A0 D B X H0 xs) (hH0 : H0 = s0.heap) (hnt : ∀ e, l.admits e → e.platform.stackTraces = false)
    (hr1 : (Cond.isRef (.static Bundle.tN "UNASSIGNED_STACK" Bundle.steD)).before A0 s0 = true) (hr2 : (Cond.isRef (.static Bundle.tN "SUPPRESSED_SENTINEL" Bundle.listD)).before A0 s0 = true) : ax_ExL l s0 D B X H0 := by
  intro p e R s m args below meth c H locs cells slots Q pc A w own idx t u i k r hexec hA hown hW hHs hu hlink hS hwi ht hde hfr hlo hwt hk kk
  intro T hT XX
  have hX := G.2.2.2.1
  have hB : H0.size = B := G.2.2.2.2.2.1
  have hHs' : ∀ a, a < s0.heap.size → s.heap[a]? = s0.heap[a]? := fun a ha => by rw [← hH0] at ha ⊢; exact hHs a (by omega)
  have wd : ∀ {w : Jvm.Cond}, (decide (w ∈ lw_tbl) && ax_kx w) = true → w.before args s = true := fun h => ax_wordX G hW hHs' h
  obtain ⟨cell, c1, c2⟩ := hS.2.1 i _ hwi
  obtain ⟨C, Tc, hCt, hxw, -, -, -, hT4⟩ := ax_xcls ht
  obtain ⟨Cu, Tu, hCu, hxu, hchain, hfitu, hxn, -⟩ := ax_xcls hu
  have ow : ∀ v ∈ ax_xws C, v.before args s = true := fun v hv => wd (List.all_eq_true.mp hxw v hv)
  have howns : e.platform.frameOwnsMonitors = true := by rw [XX.admits.platform]
  have hfin : e.platform.finalization = false := by rw [XX.admits.platform]
  have hpl : e.platform.magicAccessors = ({} : Platform).magicAccessors := by rw [XX.admits.platform]
  obtain ⟨Tt, Z0, L, -, Y⟩ := ThrowableC.of_atoms (args := args) howns hfin hpl (fun x hx => wd (List.all_eq_true.mp ax_xw1 x hx))
  obtain ⟨Z, Mm, LZ, LM, hnZ⟩ := Init0T.ofS_atoms (args := args) hpl L Y (fun x hx => wd (List.all_eq_true.mp ax_xw2 x hx))
  obtain ⟨P1, Ps, hlen, L1, hL, hP1m, hlink1, hlink2⟩ := Bundle.chainS (args := args) hpl hnZ ax_names Cu hfitu ax_xfit.2.2 (fun x hx => wd (List.all_eq_true.mp hchain x hx))
  have hK := G.2.1.moved hW.alike
  obtain ⟨hSl, hfc, kX, hkX, hord⟩ := hK.1 t _ hCt
  have hfound : s.vm.findClass C = some (D.1 t) := hfc
  obtain ⟨cX1, kX1, hc1, hk1, -, -, -, hn6⟩ := Cond.instantiable_spec (ow (.instantiable C 6) (by simp [ax_xws]))
  cases Option.some.inj (hc1.symm.trans hfound)
  cases Option.some.inj (hk1.symm.trans hkX)
  have hsel0 : selectMethod e.platform s.vm cell.cls Tt.fill0 = .method Tt.fill0 := by
    obtain ⟨c2', r2, m2, q1, q2, q3, q4, -⟩ := Cond.selects_spec (ow (.selects C Bundle.tFill0 Bundle.tFill0) (by simp [ax_xws]))
    cases Option.some.inj (q1.symm.trans hfound)
    cases Option.some.inj (q2.symm.trans (State.methodFound?_of_named Y.fill0 (by decide)))
    cases Option.some.inj (q3.symm.trans Y.fill0)
    rw [Launch.admits_selectMethod XX.admits, c2.1]; exact q4
  have hselF : selectMethod e.platform s.vm cell.cls Tt.fill = .method Tt.fill := by
    obtain ⟨c2', r2, m2, q1, q2, q3, q4, -⟩ := Cond.selects_spec (ow (.selects C Bundle.tFill Bundle.tFill) (by simp [ax_xws]))
    cases Option.some.inj (q1.symm.trans hfound)
    cases Option.some.inj (q2.symm.trans (State.methodFound?_of_named Y.fill (by decide)))
    cases Option.some.inj (q3.symm.trans Y.fill)
    rw [Launch.admits_selectMethod XX.admits, c2.1]; exact q4
  obtain ⟨cellS, hcS0, hiss⟩ := Y.statics
  have hl1 : (Cond.laysStatic Bundle.tN "UNASSIGNED_STACK" Bundle.steD).before A0 s0 = true := by
    have := List.all_eq_true.mp ax_xw1 (.laysStatic Bundle.tN "UNASSIGNED_STACK" Bundle.steD) (by simp [Bundle.throwableAtoms])
    simp only [Bool.and_eq_true, decide_eq_true_eq] at this
    exact G.1 _ this.1
  have hl2 : (Cond.laysStatic Bundle.tN "SUPPRESSED_SENTINEL" Bundle.listD).before A0 s0 = true := by
    have := List.all_eq_true.mp ax_xw1 (.laysStatic Bundle.tN "SUPPRESSED_SENTINEL" Bundle.listD) (by simp [Bundle.throwableAtoms])
    simp only [Bool.and_eq_true, decide_eq_true_eq] at this
    exact G.1 _ this.1
  obtain ⟨u0, hu0⟩ := Cond.staticRefV (args := args) (first := s) (o := none) (idx := []) Y.unassigned L.unassignedStatic L.statics hcS0 hiss (ax_isRefS hW hHs' hl1 hr1)
  obtain ⟨sen, hsen⟩ := Cond.staticRefV (args := args) (first := s) (o := none) (idx := []) Y.sentinel L.sentinelStatic L.statics hcS0 hiss (ax_isRefS hW hHs' hl2 hr2)
  have hold : Tt.aS < s0.heap.size := ax_staticsOld hW hl1 Y.found L.cls L.statics
  have holdB : Tt.aS < B := by rw [← hB, hH0]; exact hold
  have hcellS : T.heap[Tt.aS]? = some cellS := by rw [hT, hS.2.2 _ holdB, ← hHs _ holdB]; exact hcS0
  have hknownS : cellS.vm ≠ .unknown := fun hq => by rw [hq] at hiss; cases hiss
  have hneS : Tt.aS ≠ B + i := fun hq => by
    have h1 : Tt.aS < B := holdB
    have h2 : Tt.aS = B + i := hq
    exact absurd h1 (by rw [h2]; exact Nat.not_lt.mpr (Nat.le_add_right B i))
  obtain ⟨ci198, i198, fB, hk198, hg198, ha198, hsB, -, hnB, htB, hffB⟩ := Cond.ownField (t := .object "java/lang/Object") Y.found L.cls (by decide +kernel) (ow (.fieldLink Bundle.tN 198 Bundle.tN "backtrace" "Ljava/lang/Object;") (by simp [ax_xws])) (ow (.lays Bundle.tN Bundle.tN "backtrace" "Ljava/lang/Object;") (by simp [ax_xws])) e.platform hpl
  obtain ⟨iM, hffM⟩ := Y.msg
  obtain ⟨tyC, dC, hdC, hdnC⟩ := Cond.laysAt hfound hkX Y.cause (ow (.lays C Bundle.tN "cause" "Ljava/lang/Throwable;") (by simp [ax_xws]))
  obtain ⟨tyS, dS, hdS, hdnS⟩ := Cond.laysAt hfound hkX Y.stack (ow (.lays C Bundle.tN "stackTrace" Bundle.steD) (by simp [ax_xws]))
  obtain ⟨tyP, dP, hdP, hdnP⟩ := Cond.laysAt hfound hkX Y.supp (ow (.lays C Bundle.tN "suppressedExceptions" Bundle.listD) (by simp [ax_xws]))
  obtain ⟨tyM, dM, hdM, hdnM⟩ := Cond.laysAt hfound hkX hffM (ow (.lays C Bundle.tN "detailMessage" "Ljava/lang/String;") (by simp [ax_xws]))
  obtain ⟨tyB, dB, hdB, hdnB⟩ := Cond.laysAt hfound hkX hffB (ow (.lays C Bundle.tN "backtrace" "Ljava/lang/Object;") (by simp [ax_xws]))
  have bC := Cond.laysApart hdB hdC hdnB hdnC (by rw [hnB, Y.causeName]; decide)
  have bS := Cond.laysApart hdB hdS hdnB hdnS (by rw [hnB, Y.stackName]; decide)
  have bP := Cond.laysApart hdB hdP hdnB hdnP (by rw [hnB, Y.suppName]; decide)
  have hsz6 : cell.slots.size = 6 := by
    have := c2.2.2.2.2.2.1
    rw [this]
    rcases ht with rfl | rfl <;> rfl
  have hback : cell.slots[fB.slot]? = some .null := by
    have h4 := c2.2.2.2.2.2.2 4 .null rfl
    obtain ⟨cf, kf, fi, fd, hi, hs4⟩ := hSl 4 (by show 4 < 6; omega)
    simp only [hT4] at hi
    have hi' : s.fieldFound? Bundle.tN "backtrace" "Ljava/lang/Object;" = some (cf, kf, fi, fd) := hi
    have e1 := Option.some.inj (hi'.symm.trans hffB)
    simp only [Prod.mk.injEq] at e1
    obtain ⟨-, -, -, rfl⟩ := e1
    have hsx : ax_sx D (t, ax_xf).1 4 = fd.slot := by
      unfold ax_sx
      rw [if_neg (by show ¬ 20 ≤ t; omega)]
      exact hs4.symm
    rw [hsx] at h4
    exact h4
  have tk : ∀ {f : Field} {v : Value}, kX.instanceTypes[f.slot]? = some f.type → fits f.type v = true → Takes s cell f v := by
    intro f v h1 h2
    refine ⟨?_, ?_⟩
    · rw [hsz6, ← hn6]; exact (Array.getElem?_eq_some_iff.mp h1).1
    · rw [c2.1, c2.2.1]; exact (Takes.of_laid hkX hord h1 h2).2
  have hskip : SkipFacts Tt e.platform s (fun u => u) u0 ((preparedCellV Tt.toThrowableT cell (B + i) u0 sen).withEntry T.cur) :=
    ⟨{ ci198 := ci198, i198 := i198, fBack := fB }, ⟨hk198, hg198, ha198, hsB⟩, by
      simpa [preparedCellV, Cell.setSlot, Cell.withEntry, Array.getElem?_setIfInBounds, bC, bS, bP, bC.symm, bS.symm, bP.symm] using hback, fun _ _ => rfl⟩
  obtain ⟨ak, hak⟩ := hX k
  have hmsg : (X k).isRef = true := by rw [hak]; rfl
  rw [hxn] at hlink
  obtain ⟨tm, methC, cdC, kC, vm₁, hnC, -, -, -, -, -, -, -, hW₁, st1⟩ := Steps.initColdS (tb := p.tables) (e := e) (below := below) (s := s) (U := T) XX.here hexec XX.warmed hpl hown (t := Bundle.initS Cu) rfl rfl (Bundle.fit_spec hfitu).2
    hlink (wd (List.all_eq_true.mp hchain (.instanceMethod (Bundle.initS Cu)) (by simp [ax_names, Bundle.chainSAtoms, Bundle.passSAtoms]))) (bytes := Bundle.six) (maxL := 2) (wd (List.all_eq_true.mp hchain (.code (Bundle.initS Cu) Bundle.six 2 none) (by simp [ax_names, Bundle.chainSAtoms, Bundle.passSAtoms])))
    (f := F0 m pc A ((Value.retAddr k :: .ref i :: r).map (ax_v B X))) rfl (a := B + i) (msg := X k) (rest := r.map (ax_v B X)) rfl hde
  cases Option.some.inj (hnC.symm.trans hP1m)
  have X₁ := XX.noted hW₁
  have hc1' : (T.setVm vm₁).heap[B + i]? = some cell := by show T.heap[B + i]? = _; rw [hT]; exact c1
  obtain ⟨vm₂, X₂, st2⟩ := X₁.ctorMessageOffV hexec (g := F0 m pc A (r.map (ax_v B X))) rfl (by show A.size = c.maxLocals; exact hA.symm) Tt L Z LZ Mm LM (P1 :: Ps)
    (fun P hP => by rcases List.mem_cons.mp hP with rfl | hP; exact L1; exact hL P hP) ⟨hlink1, hlink2⟩ (u0 := u0) (sen := sen) (self := B + i) hmsg (cell := cell) (cellS := cellS)
    hc1' (fun z hz => by rw [c2.2.1] at hz; cases hz) c2.known (by rw [c2.2.2.1.1]) (by rw [c2.2.2.1.1]) hsel0 hselF hcellS hneS hknownS hu0 hsen
    (tk tyC (by rw [Y.causeType]; rfl)) (tk tyS (by rw [Y.stackType]; exact fits_refV_array _ u0)) (tk tyP (by rw [Y.suppType]; exact fits_refV_object _ sen))
    (tk tyM (by rw [Y.msgType]; exact fits_refV_object _ ⟨X k, hmsg⟩)) Y.objLocals hskip (hnt e XX.admits) [] hde
    (by have h2 : Ps.length = 2 := hlen; simp only [List.length_cons, h2]; omega) (by
      have h2 : Ps.length = 2 := hlen
      show 2 * 0 + _ + _ ≤ _
      rw [ax_wt_sum hX]
      simp only [List.length_cons, h2]
      omega)
  have hcell' : ax_cell B X D (t, []) (plainBareV Tt.toThrowableT cell (B + i) u0 sen (X k)) := by
    refine ⟨?_, ?_, ?_, fun q => absurd q (by show ¬ 20 ≤ t; omega), fun _ => ⟨by show 0 ≤ _; omega, by show t < 11; omega⟩, ?_, fun k v hv => by simp at hv⟩
    · have : (plainBareV Tt.toThrowableT cell (B + i) u0 sen (X k)).cls = cell.cls := by simp [plainBareV, preparedCellV, Cell.setSlot]
      rw [this]; exact c2.1
    · have : (plainBareV Tt.toThrowableT cell (B + i) u0 sen (X k)).vm = cell.vm := by simp [plainBareV, preparedCellV, Cell.setSlot]
      rw [this]; exact c2.2.1
    · have h1 : (plainBareV Tt.toThrowableT cell (B + i) u0 sen (X k)).monitor = cell.monitor := by simp [plainBareV, preparedCellV, Cell.setSlot]
      have h2 : (plainBareV Tt.toThrowableT cell (B + i) u0 sen (X k)).hash = cell.hash := by simp [plainBareV, preparedCellV, Cell.setSlot]
      rw [h1, h2]; exact c2.2.2.1
    · have : (plainBareV Tt.toThrowableT cell (B + i) u0 sen (X k)).slots.size = cell.slots.size := by simp [plainBareV, preparedCellV, Cell.setSlot]
      rw [this, hsz6]
      rcases ht with rfl | rfl <;> rfl
  generalize plainBareV Tt.toThrowableT cell (B + i) u0 sen (X k) = cell' at X₂ st2 hcell'
  have hlt : B + i < H.size := (Array.getElem?_eq_some_iff.mp c1).1
  have hil : i < w.length := (List.getElem?_eq_some_iff.mp hwi).1
  obtain ⟨tt, z1, z2⟩ := kk (H.setIfInBounds (B + i) cell') _ (hS.set (H' := H.setIfInBounds (B + i) cell') hil hcell' (by simp [Array.getElem?_setIfInBounds, hlt]) (by simp) (fun q hq => by simp [Array.getElem?_setIfInBounds, Ne.symm hq])) (fun q hq => by
      have hb : q.base = B + i := by
        simp only [List.mem_cons, List.not_mem_nil, or_false] at hq
        rcases hq with rfl | rfl | rfl | rfl | rfl <;> rfl
      rw [hb]
      exact Nat.le_add_right _ _) _ (by rw [← hT]; rfl) X₂
  refine ⟨tt, st1 _ (fun acts => ?_), z2⟩
  rw [doInvoke_state]
  exact st2 _ z1
