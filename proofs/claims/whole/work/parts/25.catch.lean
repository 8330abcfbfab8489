/-! the law of a handler that catches: its class may be resolved in the search itself -/
theorem ax_go_cold {E : CtlPost} {e : Env} {d : Bool} {acts : List Action} {s : State} {f : JFrame} {a : Addr} {Q : Handler → Pre} {x : ExceptionTableEntry} {t : List ExceptionTableEntry} {c : ClassId} {cell : Cell} {vm' : Vm} (hx : covers x f.pc = true) (h0 : x.catchType ≠ 0)
    (hg : (Jvm.resolveClass f.method.cls x.catchType).Gives e.toSetting s.vm (.ok c) vm') (hsz : vm'.classes.size ≤ s.vm.classes.size) (hcell : s.heap[a]? = some cell) (hobj : ∀ k, cell.vm ≠ .statics k)
    (hk : ∃ k, vm'.classes[cell.cls]? = some k) (hc : ∃ k, vm'.classes[c]? = some k) :
    wp (findHandler.go f a (x :: t)) Q E e d acts s ↔ if vm'.assignable cell.cls c = true then Q (.found x.handlerPc) d acts (s.setVm vm') else wp (findHandler.go f a t) Q E e d acts (s.setVm vm') := by
  simp only [covers] at hx
  have hop := hg.op (op := VmOp.resolveClass f.method.cls x.catchType) rfl
  have hla := VmOp.lands_eq (op := VmOp.resolveClass f.method.cls x.catchType) (e := e) (s := s) hop.2 hsz
  cases hfit : vm'.assignable cell.cls c <;>
    simp [findHandler.go, hx, h0, hop, hla, hcell, hobj, hk, hc, hfit, VmOp.dirties, VmOp.acts]
/-- the search ends in a handler, with warmer tables -/
theorem ax_stepCatch {e : Env} {s : State} {a : Addr} {f : JFrame} {r : List Frame} {pc : Nat} {vm' : Vm} (hfind : ∀ (Q : Handler → Pre) (E : CtlPost) (d : Bool) (acts : List Action), wp (findHandler f a) Q E e d acts s ↔ Q (.found pc) d acts (s.setVm vm')) :
    (stepThrowing e s a (.java f :: r)).Is ((s.setVm vm').setFrames (.java { f with pc := pc, stack := [.ref a] } :: r)) [] := by
  simp only [stepThrowing, searchFrame, vmDo]
  generalize hr : Sem.go _ e false [] s = res
  obtain ⟨as, rfl, ha⟩ := Sem.eq_ok_of hr (a := Handler.found pc) (s' := s.setVm vm') (acts' := []) (by simp [hfind _ _ _ _])
  exact ⟨rfl, ha⟩
theorem ax_caught {tb : Tables} [Ours tb] {e : Env} {s target : State} {g : JFrame} {c : Code} {below : List Frame} {a : Addr} (h : At s g.method c below) {pc : Nat} {vm' : Vm} (hfind : ∀ (Q : Handler → Pre) (E : CtlPost) (d : Bool) (acts : List Action), wp (findHandler g a) Q E e d acts ((s.setTop g).pushFrame (.throwing a)) ↔ Q (.found pc) d acts (((s.setTop g).pushFrame (.throwing a)).setVm vm'))
    (hrest : Steps tb e below ((s.setVm vm').setTop { g with pc := pc, stack := [.ref a] }) target) :
    Steps tb e below ((s.setTop g).pushFrame (.throwing a)) target := by
  obtain ⟨hgo, hw⟩ := h.throwing a
  refine Steps.head hgo hw ?_
  rw [stepThread_throwing (frames_entered h.top _), (ax_stepCatch (s := (s.setTop g).pushFrame (.throwing a)) hfind).1]
  obtain ⟨g₀, hg⟩ := Option.isSome_iff_exists.mp h.top
  obtain ⟨r, hr⟩ := State.topJava?_eq_some.mp hg
  have hr' : (s.setVm vm').frames = .java g₀ :: r := hr
  rw [State.setTop_of_frames _ hr'] at hrest
  have e1 : (((s.setTop g).pushFrame (.throwing a)).setVm vm').setFrames (.java { g with pc := pc, stack := [.ref a] } :: s.frames.tail) = (s.setVm vm').setFrames (.java { g with pc := pc, stack := [.ref a] } :: s.frames.tail) := by
    have e2 : ((s.setTop g).pushFrame (.throwing a)).setVm vm' = (s.setVm vm').setFrames (.throwing a :: .java g :: r) := by
      rw [State.pushFrame, State.frames_setTop _ hr, State.setTop_of_frames _ hr, State.setFrames_setFrames]
      rfl
    rw [e2, State.setFrames_setFrames]
  rw [e1, hr]
  exact hrest
set_option maxRecDepth 100000 in
theorem ax_lnk : Cond.classLink "MatrixDeskLaw" 13 R_Io ∈ lw_tbl ∧ Cond.classLink "MatrixDeskLaw" 15 R_Ia ∈ lw_tbl := by decide +kernel
/-- neither of the two exceptions is one of the other -/
def ax_NC (D : va_G) (s0 : State) : Prop := s0.vm.assignable (D.1 9) (D.1 10) = false ∧ s0.vm.assignable (D.1 10) (D.1 9) = false
theorem ax_search {s0 : State} {A0 : Array Value} {D : va_G} {B : Nat} {X : Nat → Value} {H0 : Heap} {xs : List Int32} (G : ax_G s0 A0 D B X H0 xs) (hnc : ax_NC D s0) {e : Env} {s : State} {m : MethodId} (hadm : e.platform.magicAccessors = ({} : Platform).magicAccessors) (hown : s.vm.findClass "MatrixDeskLaw" = some m.cls) (hW : s0.WarmedH s.vm)
    {f : JFrame} (hf : f.method = m) {a : Addr} {cell : Cell} {t : Nat} (ht : t = 9 ∨ t = 10) (hcls : cell.cls = D.1 t) (hvm : cell.vm = .none) {h : Nat} :
    ∀ (tab : List (Nat × Nat × Nat × Nat)) (ents : List ExceptionTableEntry), ents.map (fun h => (h.startPc, h.endPc, h.handlerPc, h.catchType)) = ax_ht tab → (∀ q ∈ tab, q.2.2.2 = 9 ∨ q.2.2.2 = 10) → ax_hdl tab f.pc t = some h → ∀ U : State, s.WarmedH U.vm → U.heap[a]? = some cell →
      ∃ vm', s.WarmedH vm' ∧ ∀ (Q : Handler → Pre) (E : CtlPost) (d : Bool) (acts : List Action), wp (findHandler.go f a ents) Q E e d acts U ↔ Q (.found h) d acts (U.setVm vm') := by
  intro tab
  induction tab with
  | nil => intro ents _ _ hh; cases hh
  | cons q r ih =>
    intro ents hmap htab hh U hU hcell
    obtain ⟨sp, ep, hp, ct⟩ := q
    cases ents with
    | nil => cases hmap
    | cons x xs' =>
      simp only [ax_ht, List.map_cons, List.cons.injEq, Prod.mk.injEq] at hmap
      obtain ⟨⟨m1, m2, m3, m4⟩, mr⟩ := hmap
      have htr : ∀ q ∈ r, q.2.2.2 = 9 ∨ q.2.2.2 = 10 := fun q hq => htab q (List.mem_cons_of_mem _ hq)
      have hct : ct = 9 ∨ ct = 10 := htab _ List.mem_cons_self
      have hvs : ∀ k, cell.vm ≠ .statics k := fun k hk => by rw [hvm] at hk; cases hk
      by_cases hcov : covers x f.pc = true
      · -- the entry covers: its class is looked up
        have hlink : ∃ C, (Cond.classLink "MatrixDeskLaw" x.catchType C).before A0 s = true ∧ s.vm.findClass C = some (D.1 ct) := by
          have hK := G.2.1.moved hW.alike
          rcases hct with rfl | rfl
          · rw [m4]
            exact ⟨R_Io, G.word hW ax_lnk.1 rfl, (hK.1 9 _ rfl).2.1⟩
          · rw [m4]
            exact ⟨R_Ia, G.word hW ax_lnk.2 rfl, (hK.1 10 _ rfl).2.1⟩
        obtain ⟨C, hl, hfc⟩ := hlink
        obtain ⟨cc, hfcc, hcl⟩ := Cond.classLink_spec hown hl e.platform hadm
        cases hfc.symm.trans hfcc
        obtain ⟨hg₁, hwarm₁, hready₁⟩ := State.classEntry (e := e) hU hcl
        rw [← hf] at hg₁ hwarm₁ hready₁
        have h0 : x.catchType ≠ 0 := by
          rw [m4]
          rcases hct with q | q <;> rw [q] <;> simp
        have hK := G.2.1.moved hW.alike
        have hclsAt : ∀ u, u = 9 ∨ u = 10 → ∃ k, (U.vm.noted f.method.cls x.catchType (.cls (D.1 ct))).classes[D.1 u]? = some k := by
          intro u hu
          have : ∃ C, ClassAt s C (D.1 u) := by
            rcases hu with rfl | rfl
            · exact ⟨_, (hK.1 9 _ rfl).2⟩
            · exact ⟨_, (hK.1 10 _ rfl).2⟩
          obtain ⟨C, -, k, hk, -⟩ := this
          obtain ⟨k', hk', -⟩ := hwarm₁.alike.2.2 _ _ hk
          exact ⟨k', hk'⟩
        have hsz : (U.vm.noted f.method.cls x.catchType (.cls (D.1 ct))).classes.size ≤ U.vm.classes.size := by
          simp [Vm.noted]
        have hasg : (U.vm.noted f.method.cls x.catchType (.cls (D.1 ct))).assignable cell.cls (D.1 ct) = decide (ct = t) := by
          rw [hwarm₁.alike.assignable, hW.alike.assignable, hcls]
          rcases ht with rfl | rfl <;> rcases hct with rfl | rfl
          · rw [va_assign (G.2.1.1 9 _ rfl).2]; rfl
          · rw [hnc.1]; rfl
          · rw [hnc.2]; rfl
          · rw [va_assign (G.2.1.1 10 _ rfl).2]; rfl
        have hcd : decide (sp ≤ f.pc) = true ∧ decide (f.pc < ep) = true := by
          simp only [covers, Bool.and_eq_true] at hcov
          rw [m1, m2] at hcov
          exact hcov
        by_cases hctt : ct = t
        · subst hctt
          unfold ax_hdl at hh
          simp only [hcd.1, hcd.2, BEq.rfl, Bool.and_self, if_true, Option.some.injEq] at hh
          subst hh
          refine ⟨_, hwarm₁, fun Q E d acts => ?_⟩
          rw [ax_go_cold hcov h0 hg₁ hsz hcell hvs (by rw [hcls]; exact hclsAt ct ht) (hclsAt ct hct), hasg, if_pos (decide_eq_true rfl), m3]
        · unfold ax_hdl at hh
          have hne : (ct == t) = false := by simp [hctt]
          simp only [hne, Bool.and_false, Bool.false_eq_true, if_false] at hh
          obtain ⟨vm', hw', hq'⟩ := ih xs' mr htr hh (U.setVm (U.vm.noted f.method.cls x.catchType (.cls (D.1 ct)))) hwarm₁ hcell
          refine ⟨vm', hw', fun Q E d acts => ?_⟩
          rw [ax_go_cold hcov h0 hg₁ hsz hcell hvs (by rw [hcls]; exact hclsAt t ht) (hclsAt ct hct), hasg, decide_eq_false hctt, if_neg (by decide), hq']
          rfl
      · have hcovf : covers x f.pc = false := by
          cases hz : covers x f.pc
          · rfl
          · exact absurd hz hcov
        unfold ax_hdl at hh
        have hne : (decide (sp ≤ f.pc) && decide (f.pc < ep)) = false := by
          rw [← m1, ← m2]; exact hcovf
        simp only [hne, Bool.false_and, Bool.false_eq_true, if_false] at hh
        obtain ⟨vm', hw', hq'⟩ := ih xs' mr htr hh U hU hcell
        refine ⟨vm', hw', fun Q E d acts => ?_⟩
        rw [W.findHandler_go_skip hcovf, hq']
theorem ax_catchLaw {l : Launch} {s0 : State} {A0 : Array Value} {D : va_G} {B : Nat} {X : Nat → Value} {H0 : Heap} {xs : List Int32} (G : ax_G s0 A0 D B X H0 xs) (hnc : ax_NC D s0) : ax_CaL l s0 D B X H0 := by
  intro p e R s m args below meth c T locs cells slots pc A st w i t q tab h XX hexec hown hW htab hall hS hwi ht hh
  obtain ⟨cell, c1, c2⟩ := hS.2.1 i _ hwi
  have hpl : e.platform.magicAccessors = ({} : Platform).magicAccessors := by rw [XX.admits.platform]
  obtain ⟨vm', hw', hq'⟩ := ax_search G hnc hpl hown hW (f := F0 m pc A st) rfl (a := B + i) (cell := cell) ht c2.1 c2.2.1 tab c.exceptionTable.toList htab hall hh ((T.setTop (F0 m pc A st)).pushFrame (.throwing (B + i))) (by rw [Stand.throwing_vm]; exact XX.warmed) (by rw [Stand.throwing_heap]; exact c1)
  refine ⟨vm', XX.noted hw', fun target hrest => ?_⟩
  refine ax_caught (g := F0 m pc A st) XX.here (pc := h) (vm' := vm') (fun Q E d acts => ?_) hrest
  rw [W.findHandler_eq (meth := meth) (code := c) (by rw [Stand.throwing_vm]; exact XX.method') XX.code]
  exact hq' Q E d acts
