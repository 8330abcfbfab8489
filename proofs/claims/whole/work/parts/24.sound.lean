/-! SOUNDNESS, over two laws on exceptions that are hypotheses here -/
/-- the law of an exception's constructor with a text -/
def ax_ExL (l : Launch) (s0 : State) (D : va_G) (B : Nat) (X : Nat → Value) (H0 : Heap) : Prop :=
  ∀ (p : Program) (e : Env) (R : Room) (s : State) (m : MethodId) (args : Array Value) (below : List Frame) (meth : Method) (c : Code) (H : Heap) (locs : List Loc) (cells slots : Nat) (Q : State → Prop) (pc : Nat) (A : Array Slot) (w : ax_W) (own : String) (idx t u i k : Nat) (r : List Value),
    p.tables.exec = Jvm.exec → c.maxLocals = A.size → s.vm.findClass own = some m.cls → s0.WarmedH s.vm → (∀ a, a < B → s.heap[a]? = H0[a]?) → (u = 9 ∨ u = 10) → (Cond.methodLink own idx (ax_xn u)).before args s = true → ax_Sim B X D H0 w H → w[i]? = some (t, ax_xf) → (t = 9 ∨ t = 10) → decode c.code pc = .ok (.invokespecial idx, 3) →
    7 ≤ R.frames → 200 ≤ R.locals → (r.map ax_wt).sum ≤ 8 → 2 ≤ k →
    (∀ (H' : Heap) (L : List Loc), ax_Sim B X D H0 (w.set i (t, [])) H' → (∀ q ∈ L, B ≤ q.base) → W p l e R s m args below meth c H' (locs ++ L) cells slots Q (F0 m (pc + 3) A (r.map (ax_v B X)))) →
    W p l e R s m args below meth c H locs cells slots Q (F0 m pc A ((Value.retAddr k :: .ref i :: r).map (ax_v B X)))
/-- the law of a handler that catches -/
def ax_CaL (l : Launch) (s0 : State) (D : va_G) (B : Nat) (X : Nat → Value) (H0 : Heap) : Prop :=
  ∀ (p : Program) (e : Env) (R : Room) (s : State) (m : MethodId) (args : Array Value) (below : List Frame) (meth : Method) (c : Code) (T : State) (locs : List Loc) (cells slots : Nat) (pc : Nat) (A : Array Slot) (st : List Value) (w : ax_W) (i t : Nat) (q : List Value) (tab : List (Nat × Nat × Nat × Nat)) (h : Nat),
    Stand p l e R s m args below meth c T locs cells slots → p.tables.exec = Jvm.exec → s.vm.findClass "MatrixDeskLaw" = some m.cls → s0.WarmedH s.vm → c.exceptionTable.toList.map (fun h => (h.startPc, h.endPc, h.handlerPc, h.catchType)) = ax_ht tab → (∀ q ∈ tab, q.2.2.2 = 9 ∨ q.2.2.2 = 10) →
    ax_Sim B X D H0 w T.heap → w[i]? = some (t, q) → (t = 9 ∨ t = 10) → ax_hdl tab pc t = some h →
    ∃ vm', Stand p l e R s m args below meth c (T.setVm vm') locs cells slots ∧ ∀ target, Steps p.tables e below ((T.setVm vm').setTop (F0 m h A [.ref (B + i)])) target → Steps p.tables e below ((T.setTop (F0 m pc A st)).pushFrame (.throwing (B + i))) target
theorem ax_hdl_tag {tab : List (Nat × Nat × Nat × Nat)} {pc t h : Nat} (hh : ax_hdl tab pc t = some h) : ∃ q ∈ tab, q.2.2.2 = t := by
  induction tab with
  | nil => cases hh
  | cons x r ih =>
    obtain ⟨a, b, c, d⟩ := x
    unfold ax_hdl at hh
    split at hh
    · rename_i hc
      simp only [Bool.and_eq_true, beq_iff_eq] at hc
      exact ⟨_, List.mem_cons_self, hc.2⟩
    · obtain ⟨q, h1, h2⟩ := ih hh
      exact ⟨q, List.mem_cons_of_mem _ h1, h2⟩
section AX12
variable {B : Nat} {X : Nat → Value}
theorem ax_sl_cons (v : Value) (r : List Value) : ax_sl (v :: r) = if ax_c1 v then some v :: ax_sl r else some v :: none :: ax_sl r := rfl
theorem ax_sl_len (hX : ax_Xr X) (as : List Value) : (lg_sl (as.map (ax_v B X))).length = (ax_sl as).length := by
  induction as with
  | nil => rfl
  | cons v r ih =>
    simp only [List.map_cons]
    unfold lg_sl at ih ⊢
    rw [List.flatMap_cons, List.length_append, ih, ax_sl_cons]
    by_cases hc : ax_c1 v = true
    · rw [if_pos hc, if_neg (by rw [ax_c1_cat hX B hc]; decide)]
      simp; omega
    · rw [if_neg hc, if_pos (ax_c1_not hX hc)]
      simp; omega
theorem ax_sl_args (hX : ax_Xr X) (as : List Value) : ∀ (q i : Nat) (v : Value), (ax_sl as)[i]? = some (some v) → (q + i, ax_v B X v) ∈ lv_args q (as.map (ax_v B X)) := by
  induction as with
  | nil => intro q i v h; simp [ax_sl] at h
  | cons x r ih =>
    intro q i v h
    simp only [List.map_cons, lv_args]
    unfold ax_sl at h
    by_cases hc : ax_c1 x = true
    · rw [if_pos hc] at h
      rw [if_neg (by rw [ax_c1_cat hX B hc]; decide)]
      cases i with
      | zero =>
        simp only [List.getElem?_cons_zero, Option.some.injEq] at h
        subst h
        exact List.mem_cons_self
      | succ k =>
        rw [List.getElem?_cons_succ] at h
        have := ih (q + 1) k v h
        rw [show q + 1 + k = q + (k + 1) from by omega] at this
        exact List.mem_cons_of_mem _ this
    · rw [if_neg hc] at h
      rw [if_pos (ax_c1_not hX hc)]
      cases i with
      | zero =>
        simp only [List.getElem?_cons_zero, Option.some.injEq] at h
        subst h
        exact List.mem_cons_self
      | succ k =>
        rw [List.getElem?_cons_succ] at h
        cases k with
        | zero => simp at h
        | succ j =>
          rw [List.getElem?_cons_succ] at h
          have := ih (q + 2) j v h
          rw [show q + 2 + j = q + (j + 1 + 1) from by omega] at this
          exact List.mem_cons_of_mem _ this
theorem ax_entL (hX : ax_Xr X) (as : List Value) {n : Nat} (h : (ax_sl as).length ≤ n) : ax_L B X ((lg_sl (as.map (ax_v B X)) ++ List.replicate (n - (lg_sl (as.map (ax_v B X))).length) Slot.unset).toArray) n (ax_ent as n) := by
  have h' : (lg_sl (as.map (ax_v B X))).length ≤ n := by rw [ax_sl_len hX]; exact h
  obtain ⟨h1, h2, h3⟩ := lv_entry (as.map (ax_v B X)) h'
  refine ⟨h1, h2, by unfold ax_ent; simp; omega, fun i v hv => ?_⟩
  unfold ax_ent at hv
  by_cases hi : i < (ax_sl as).length
  · rw [List.getElem?_append_left hi] at hv
    have := ax_sl_args (B := B) hX as 0 i v hv
    rw [Nat.zero_add] at this
    exact h3 _ this
  · rw [List.getElem?_append_right (by omega), List.getElem?_replicate] at hv
    split at hv <;> cases hv
end AX12
set_option maxRecDepth 100000 in
theorem ax_objw : Cond.instanceMethod Lib.objectInit ∈ lw_tbl ∧ Cond.code Lib.objectInit ⟨#[0xb1]⟩ 1 none ∈ lw_tbl := by decide +kernel
set_option maxRecDepth 100000 in
theorem ax_copw : Cond.native arraycopyName ∈ lw_tbl ∧ Cond.static arraycopyName ∈ lw_tbl ∧ Cond.initialized "java/lang/System" ∈ lw_tbl := by decide +kernel
set_option maxHeartbeats 4000000 in
theorem ax_sound {l : Launch} {s0 : State} {A0 : Array Value} {D : va_G} {B : Nat} {X : Nat → Value} {H0 : Heap} {xs : List Int32} (G : ax_G s0 A0 D B X H0 xs) (hEx : ax_ExL l s0 D B X H0) (hCa : ax_CaL l s0 D B X H0) :
    ∀ (f fr lo z pc : Nat) (ls : List (Option Value)) (st : List Value) (w : ax_W) (o : Outcome) (w' : ax_W), ax_run xs f fr lo z pc ls st w = some (o, w') →
    ∀ (p : Program) (e : Env) (R : Room) (s : State) (m : MethodId) (args : Array Value) (below : List Frame) (meth : Method) (c : Code) (H : Heap) (locs : List Loc) (cells slots : Nat) (A : Array Slot) (M : ax_M) (yy : MethodName × ByteArray × Option FieldType × Nat),
      ax_prog[z]? = some M → ax_who[z]? = some yy → ax_Fr s0 yy.1 yy.2.1 M.2.1 yy.2.2.1 (ax_ht M.2.2.2) p s m meth c → (∀ a, a < B → s.heap[a]? = H0[a]?) → ax_Sim B X D H0 w H → ax_L B X A M.2.1 ls → (∀ q ∈ locs, B ≤ q.base) → fr ≤ R.frames → lo ≤ R.locals → cells + w'.length ≤ R.cells + w.length → slots + ax_sz w' ≤ R.slots + ax_sz w →
      W p l e R s m args below meth c H locs cells slots (ax_Q B X D H0 s below o w w' cells slots) (F0 m pc A (st.map (ax_v B X))) := by
  have hX := G.2.2.2.1
  intro f
  induction f with
  | zero => intro fr lo z pc ls st w o w' h; cases h
  | succ f IH =>
    intro fr lo z pc ls st w o w' h p e R s m args below meth c H locs cells slots A M yy hM hy hF hHs hS hL hl hfr hlo hcl hsl
    obtain ⟨M', en, hM', hen, hc⟩ := ax_turn h
    cases hM.symm.trans hM'
    have hms := ax_mspec hM hy
    obtain ⟨hde, hck⟩ := ax_cchk_spec hms.1 hen
    rw [Nat.zero_add] at hde hck
    -- going on behind a step that left the world at w1
    have onward : ∀ {w1 : ax_W} {cells1 slots1 : Nat} {g : JFrame} {H1 : Heap} {L : List Loc}, cells1 + w.length = cells + w1.length → slots1 + ax_sz w = slots + ax_sz w1 →
        W p l e R s m args below meth c H1 L cells1 slots1 (ax_Q B X D H0 s below o w1 w' cells1 slots1) g → W p l e R s m args below meth c H1 L cells1 slots1 (ax_Q B X D H0 s below o w w' cells slots) g := by
      intro w1 cells1 slots1 g H1 L e1 e2 k
      refine ax_Wm (fun t ht => ?_) k
      obtain ⟨L', k', n', q1, q2, q3⟩ := ht
      exact ⟨L', k', n', by omega, by omega, q3⟩
    rcases hc with ⟨v, hv, hr⟩ | ⟨i, t, hat, hst, hemp, hr⟩ | ⟨hinv, hr⟩ | ⟨pc', ls', st', w1, hs, hr⟩
    · -- a return
      cases hr
      have hlen : en.2.1 = ax_len en.1 := ax_echk_len hck (fun d lo hi offs q => by rw [q] at hv; cases hv)
      exact ax_ret_ok hF hms.2.1 hS hl hde hlen hv
    · -- a throw
      cases hr
      subst hst
      obtain ⟨hexec, hb, hml, hrt, hlk, hown, hname, htab, hW⟩ := hF
      rw [List.isEmpty_iff.mp hemp] at htab
      have hnt : c.exceptionTable.toList = [] := by
        have : (c.exceptionTable.toList.map (fun h => (h.startPc, h.endPc, h.handlerPc, h.catchType))) = [] := htab
        exact List.map_eq_nil_iff.mp this
      have hlen : en.2.1 = ax_len en.1 := ax_echk_len hck (fun d lo hi offs q => by rw [q] at hat; cases hat)
      rw [hlen, hat] at hde
      intro T hT XX
      obtain ⟨s1, s2, s3, s4, s5⟩ := XX.athrowLeaves hexec (g := F0 m pc A ((Value.ref i :: t).map (ax_v B X))) rfl rfl rfl (fun x hx => by rw [hnt] at hx; cases hx) (a := B + i) (rest := t.map (ax_v B X)) rfl (by rw [hb]; exact hde) (hlocks := hlk)
      exact ⟨_, s1, locs, cells, slots, rfl, rfl, s2, s3, s4, s5, by show ax_Sim B X D H0 w T.heap; rw [hT]; exact hS, hl⟩
    · -- a call
      unfold ax_road at hr
      split at hr
      · rename_i h1000
        split at hr
        · rename_i st1 w1 hsp
          have hg := ax_grow _ _ _ _ _ _ _ _ _ hr
          have hz := ax_spc_sz hsp
          have hF' := hF
          obtain ⟨hexec, hb, hml, hrt, hlk, hown, hname, htab, hW⟩ := hF'
          have h3 : en.2.1 = 3 := by
            rcases hinv with ⟨idx, hi⟩ | ⟨idx, hi⟩ | ⟨idx, hi⟩ <;> (have := ax_echk_len hck (fun d lo hi' offs q => by rw [hi] at q; cases q); rw [hi] at this; exact this)
          have hA : c.maxLocals = A.size := by rw [hml, hL.1]
          rcases ax_spc_inv hsp with ⟨ha, i, rfl, rfl, g1, g2, g3⟩ | ⟨ha, k, i, t, rfl, rfl, g1, g2, g3, g4, g5, g6⟩ | ⟨ha, g1, g2, g3, hcp⟩
          · -- Object's constructor
            obtain ⟨ins, len, ea, eb, ej⟩ := en
            simp only at ha hde h3 hinv
            subst ha; subst h3
            rcases hinv with ⟨idx, rfl⟩ | ⟨idx, rfl⟩ | ⟨idx, rfl⟩
            · unfold ax_echk at hck
              simp only [Bool.and_eq_true, decide_eq_true_eq] at hck
              exact absurd hck.1.2 (by decide)
            · unfold ax_echk at hck
              simp only [Bool.and_eq_true, Bool.or_eq_true, decide_eq_true_eq] at hck
              rcases hck.2 with ⟨q, -⟩ | ⟨q, -⟩
              · exact absurd q (by decide)
              · exact absurd q (by decide)
            · unfold ax_echk at hck
              simp only [Bool.and_eq_true, Bool.or_eq_true, decide_eq_true_eq] at hck
              rcases hck.2 with (⟨-, q⟩ | ⟨q, -⟩) | ⟨q, -⟩
              · have hlk2 := ax_obj_w q
                refine ax_objinit_ok hX hexec hb hA hown (G.word hW hlk2 rfl) (G.word hW ax_objw.1 rfl) (G.word hW ax_objw.2 rfl) hde (by omega) (by omega) g3 ?_
                exact IH _ _ _ _ _ _ _ _ _ hr p e R s m args below meth c H locs cells slots A M yy hM hy hF hHs hS hL hl hfr hlo hcl hsl
              · exact absurd q (by decide)
              · exact absurd q (by decide)
          · -- an exception's constructor
            obtain ⟨ins, len, ea, eb, ej⟩ := en
            simp only at ha hde h3 hinv
            subst ha; subst h3
            rcases hinv with ⟨idx, rfl⟩ | ⟨idx, rfl⟩ | ⟨idx, rfl⟩
            · unfold ax_echk at hck
              simp only [Bool.and_eq_true, decide_eq_true_eq] at hck
              exact absurd hck.1.2 (by decide)
            · unfold ax_echk at hck
              simp only [Bool.and_eq_true, Bool.or_eq_true, decide_eq_true_eq] at hck
              rcases hck.2 with ⟨q, -⟩ | ⟨q, -⟩
              · exact absurd q (by decide)
              · exact absurd q (by decide)
            · unfold ax_echk at hck
              simp only [Bool.and_eq_true, Bool.or_eq_true, decide_eq_true_eq] at hck
              rcases hck.2 with (⟨q, -⟩ | ⟨-, q⟩) | ⟨q, -⟩
              · exact absurd q (by decide)
              · have hx : ∃ u, (u = 9 ∨ u = 10) ∧ Cond.methodLink yy.1.cls idx (ax_xn u) ∈ lw_tbl := by
                  rcases q with q | q
                  · exact ⟨9, Or.inl rfl, ax_exc_w q⟩
                  · exact ⟨10, Or.inr rfl, ax_exc_w q⟩
                obtain ⟨u, hu, hlk2⟩ := hx
                refine hEx p e R s m args below meth c H locs cells slots _ pc A w yy.1.cls idx t u i k st1 hexec hA hown hW hHs hu (G.word hW hlk2 rfl) hS g5 g6 (by rw [hb]; exact hde) (by omega) (by omega) g3 g4 ?_
                intro H' L hS' hL'
                refine onward (w1 := w.set i (t, [])) (by omega) (by omega) ?_
                exact IH _ _ _ _ _ _ _ _ _ hr p e R s m args below meth c H' (locs ++ L) cells slots A M yy hM hy hF hHs hS' hL (fun q hq => (List.mem_append.mp hq).elim (hl q) (hL' q)) hfr hlo (by omega) (by omega)
              · exact absurd q (by decide)
          · -- System.arraycopy
            obtain ⟨ins, len, ea, eb, ej⟩ := en
            simp only at ha hde h3 hinv
            subst ha; subst h3
            rcases hinv with ⟨idx, rfl⟩ | ⟨idx, rfl⟩ | ⟨idx, rfl⟩
            · unfold ax_echk at hck
              simp only [Bool.and_eq_true, decide_eq_true_eq] at hck
              exact absurd hck.1.2 (by decide)
            · unfold ax_echk at hck
              simp only [Bool.and_eq_true, Bool.or_eq_true, decide_eq_true_eq] at hck
              rcases hck.2 with ⟨-, q⟩ | ⟨q, -⟩
              · have hlk2 := ax_cpy_w q
                refine ax_copy_ok hX hexec hb hA hown (G.2.1.moved hW.alike) hS (G.word hW hlk2 rfl) (G.word hW ax_copw.1 rfl) (G.word hW ax_copw.2.1 rfl) (G.word hW ax_copw.2.2 rfl) hde (by omega) (by omega) g3 hcp ?_
                intro H' L hS' hL'
                refine onward (w1 := w1) (by omega) (by omega) ?_
                exact IH _ _ _ _ _ _ _ _ _ hr p e R s m args below meth c H' (locs ++ L) cells slots A M yy hM hy hF hHs hS' hL (fun q hq => (List.mem_append.mp hq).elim (hl q) (hL' q)) hfr hlo (by omega) (by omega)
              · exact absurd q (by decide)
            · unfold ax_echk at hck
              simp only [Bool.and_eq_true, Bool.or_eq_true, decide_eq_true_eq] at hck
              rcases hck.2 with (⟨q, -⟩ | ⟨q, -⟩) | ⟨q, -⟩
              · exact absurd q (by decide)
              · exact absurd q (by decide)
              · exact absurd q (by decide)
        · cases hr
      · rename_i h1000
        split at hr
        · cases hr
        · rename_i M2 hM2
          split at hr
          · cases hr
          · rename_i hfr0
            split at hr
            · cases hr
            · rename_i hlo2
              split at hr
              · cases hr
              · rename_i hst
                split at hr
                · cases hr
                · rename_i hwt
                  split at hr
                  · cases hr
                  · rename_i hent
                    split at hr
                    · rename_i hrcv
                      have hM2' : ax_prog[en.2.2.1]? = some M2 := hM2
                      intro T hT XX
                      have hST : ax_Sim B X D H0 w T.heap := by rw [hT]; exact hS
                      obtain ⟨yy2, hy2, h185, hini, h3, vm₁, mk, hWv, X1, hnm, hstep⟩ := ax_invoked (A := A) G hF XX hST hde hck hinv h1000 hM2' hst hrcv
                      have hms2 := ax_mspec hM2' hy2
                      have hcw := hms2.2.2.2.1.resolve_left h185
                      have hF' := hF
                      obtain ⟨hexec, hb, hml, hrt, hlk, hown, hname, htab, hW⟩ := hF'
                      have hW1 : s0.WarmedH (T.setVm vm₁).vm := State.WarmedH.trans hW hWv
                      have hbl := hms2.2.2.2.2.1
                      -- the callee's contract
                      have met : ∀ (o1 : Outcome) (w1 : ax_W), ax_run xs f (fr - 1) (lo - (M2.2.1 + 19)) en.2.2.1 0 (ax_ent (st.take (en.2.2.2.1 % 100)).reverse M2.2.1) [] w = some (o1, w1) →
                          MetFree l yy2.1 (headSpec [ax_cw yy2.1 yy2.2.1 M2.2.1 yy2.2.2.1 M2.2.2.2] { frames := fr - 1, cells := w1.length - w.length, slots := ax_sz w1 - ax_sz w, locals := lo - (M2.2.1 + 19) }) (fun a s' => a = ((st.take (en.2.2.2.1 % 100)).reverse.map (ax_v B X)).toArray ∧ ax_Sim B X D H0 w s'.heap ∧ s0.WarmedH s'.vm) (fun _ _ _ _ _ => True) (ax_Qc B X D H0 o1 w1 (w1.length - w.length) (ax_sz w1 - ax_sz w)) := by
                        intro o1 w1 h1
                        have hg1 := ax_grow _ _ _ _ _ _ _ _ _ h1
                        refine MetFree.of_bodySF (code := yy2.2.1) (maxLocals := M2.2.1) (ret := yy2.2.2.1) hms2.2.2.1 ?_ ?_
                        · intro a s' m' hpre hn
                          have hq := atoms_spec (ws := [ax_cw yy2.1 yy2.2.1 M2.2.1 yy2.2.2.1 M2.2.2.2]) hpre _ List.mem_cons_self
                          obtain ⟨mk', meth', cY, hn', q1, q2, q3, q4, -, q6, q7, -⟩ := ax_cw_cf hn hq
                          cases hn.symm.trans hn'
                          exact ⟨meth', cY, q1, q2, q3, q4, q6, q7⟩
                        · intro p' e' s' m' a' below' meth' c' s₁ Bd hml' hP _
                          obtain ⟨rfl, hSim', hW'⟩ := hP
                          have hq := atoms_spec (ws := [ax_cw yy2.1 yy2.2.1 M2.2.1 yy2.2.2.1 M2.2.2.2]) Bd.pre _ List.mem_cons_self
                          obtain ⟨mk', methY, cY, hn', q1, q2, q3, q4, q5, q6, q7, q8⟩ := ax_cw_cf Bd.named hq
                          cases Bd.named.symm.trans hn'
                          cases Bd.method.symm.trans q1
                          cases (Stand.of_body Bd).code.symm.trans q2
                          have hFr : ax_Fr s0 yy2.1 yy2.2.1 M2.2.1 yy2.2.2.1 (ax_ht M2.2.2.2) p' s' m' meth' c' := ⟨Bd.exec, Bd.bytes, hml', Bd.returns, Bd.notSynchronized, findClass_of_methodNamed Bd.named, (name_of_methodNamed Bd.named Bd.method).1, q5, hW'⟩
                          have hW0 := IH _ _ _ _ _ _ _ _ _ h1 p' e' { frames := fr - 1, cells := w1.length - w.length, slots := ax_sz w1 - ax_sz w, locals := lo - (M2.2.1 + 19) } s' m' ((st.take (en.2.2.2.1 % 100)).reverse.map (ax_v B X)).toArray below' meth' c' s'.heap [] 0 0 _ M2 yy2 hM2' hy2 hFr hSim'.2.2 hSim' (ax_entL hX (st.take (en.2.2.2.1 % 100)).reverse (by omega)) (fun q hq => absurd hq List.not_mem_nil) (Nat.le_refl _) (Nat.le_refl _)
                            (by have := hg1.1; simp only at this; show 0 + w1.length ≤ (w1.length - w.length) + w.length; omega) (by have := hg1.2; simp only at this; show 0 + ax_sz w1 ≤ (ax_sz w1 - ax_sz w) + ax_sz w; omega)
                          obtain ⟨t, a1, L, k, n, e1, e2, r1, r2, r3, r4, r5, r6⟩ := hW0 s₁ (by rw [Bd.state]; rfl) (Stand.of_body Bd)
                          refine ⟨t, ax_o B X o1, by rw [lg_entry_eq]; exact a1, r1, r2, rfl, r3, r5, L, ?_, r6⟩
                          have hk : k = w1.length - w.length := by omega
                          have hn2 : n = ax_sz w1 - ax_sz w := by omega
                          rw [← hk, ← hn2]
                          exact r4
                      have call : ∀ (o1 : Outcome) (w1 : ax_W), ax_run xs f (fr - 1) (lo - (M2.2.1 + 19)) en.2.2.1 0 (ax_ent (st.take (en.2.2.2.1 % 100)).reverse M2.2.1) [] w = some (o1, w1) → ax_gr w1 w' →
                          ∃ (T' : State) (L : List Loc), Stand p l e R s m args below meth c T' (locs ++ L) (cells + (w1.length - w.length)) (slots + (ax_sz w1 - ax_sz w)) ∧ (∀ q ∈ L, B ≤ q.base) ∧ ax_Sim B X D H0 w1 T'.heap ∧
                            (∀ v, o1 = .returned v → Steps p.tables e below (doInvoke e ((T.setVm vm₁).setTop (F0 m pc A ((st.drop (en.2.2.2.1 % 100)).map (ax_v B X)))) [] mk ((st.take (en.2.2.2.1 % 100)).reverse.map (ax_v B X)).toArray).1 (T'.setTop { F0 m pc A ((st.drop (en.2.2.2.1 % 100)).map (ax_v B X)) with pc := pc + en.2.1, stack := (v.map (ax_v B X)).toList ++ (st.drop (en.2.2.2.1 % 100)).map (ax_v B X) })) ∧
                            ∀ i, o1 = .threw i → Steps p.tables e below (doInvoke e ((T.setVm vm₁).setTop (F0 m pc A ((st.drop (en.2.2.2.1 % 100)).map (ax_v B X)))) [] mk ((st.take (en.2.2.2.1 % 100)).reverse.map (ax_v B X)).toArray).1 ((T'.setTop (F0 m pc A ((st.drop (en.2.2.2.1 % 100)).map (ax_v B X)))).pushFrame (.throwing (B + i))) := by
                        intro o1 w1 h1 hg2
                        have hg1 := ax_grow _ _ _ _ _ _ _ _ _ h1
                        have l1 := hg1.1
                        have l2 := hg1.2
                        have l3 := hg2.1
                        have l4 := hg2.2
                        simp only at l1 l2
                        refine ax_called X1 (met o1 w1 h1) (g := F0 m pc A ((st.drop (en.2.2.2.1 % 100)).map (ax_v B X))) rfl (by show A.size = c.maxLocals; rw [hml, hL.1]) (by rw [hb]; exact hde) hnm (ax_cw_cf hnm (G.word (args := #[]) hW1 hcw (ax_cw_keep _ _ _ _ _))) (G.word hW1 hini rfl) (fun v hv => by
                          simp only [List.mem_singleton] at hv
                          subst hv
                          exact G.word hW1 hcw (ax_cw_keep _ _ _ _ _)) (by show fr - 1 + 1 ≤ R.frames; omega) ?_ (by show cells + (w1.length - w.length) ≤ R.cells; omega) (by show slots + (ax_sz w1 - ax_sz w) ≤ R.slots; omega) ⟨rfl, ?_, ?_⟩
                        · show 2 * 0 + _ + (M2.2.1 + 11) + (lo - (M2.2.1 + 19)) ≤ R.locals
                          rw [ax_wt_sum hX]
                          omega
                        · have hh : ((T.setVm vm₁).calling (F0 m pc A ((st.drop (en.2.2.2.1 % 100)).map (ax_v B X))) mk ((st.take (en.2.2.2.1 % 100)).reverse.map (ax_v B X)).toArray).heap = T.heap := by simp [State.calling, State.pushFrame, State.setFrames, State.setTop, State.modifyTopJava, State.setVm]
                          rw [hh]; exact hST
                        · exact hW1
                      split at hr
                      · cases hr
                      · -- it returned
                        rename_i v w1 h1
                        have hg2 := ax_grow _ _ _ _ _ _ _ _ _ hr
                        have hg1 := ax_grow _ _ _ _ _ _ _ _ _ h1
                        have l1 := hg1.1
                        have l2 := hg1.2
                        simp only at l1 l2
                        obtain ⟨T', L, X', hLb, hS', hret, -⟩ := call _ _ h1 hg2
                        have hcont := IH _ _ _ _ _ _ _ _ _ hr p e R s m args below meth c T'.heap (locs ++ L) (cells + (w1.length - w.length)) (slots + (ax_sz w1 - ax_sz w)) A M yy hM hy hF hHs hS' hL (fun q hq => (List.mem_append.mp hq).elim (hl q) (hLb q)) hfr hlo (by omega) (by omega)
                        obtain ⟨t, a1, b1⟩ := onward (w1 := w1) (by omega) (by omega) hcont T' rfl X'
                        refine ⟨t, hstep _ fun acts => ?_, b1⟩
                        rw [doInvoke_state]
                        refine (hret v rfl).trans ?_
                        have hfe : ({ F0 m pc A ((st.drop (en.2.2.2.1 % 100)).map (ax_v B X)) with pc := pc + en.2.1, stack := (v.map (ax_v B X)).toList ++ (st.drop (en.2.2.2.1 % 100)).map (ax_v B X) } : JFrame) = F0 m (pc + 3) A ((v.toList ++ st.drop (en.2.2.2.1 % 100)).map (ax_v B X)) := by
                          rw [h3]
                          cases v <;> simp
                        rw [hfe]
                        exact a1
                      · -- it threw
                        rename_i i w1 h1
                        have hg1 := ax_grow _ _ _ _ _ _ _ _ _ h1
                        have l1 := hg1.1
                        have l2 := hg1.2
                        simp only at l1 l2
                        split at hr
                        · cases hr
                        · rename_i t q hwi
                          split at hr
                          · rename_i hpc hh
                            have hg2 := ax_grow _ _ _ _ _ _ _ _ _ hr
                            obtain ⟨T', L, X', hLb, hS', -, hthr⟩ := call _ _ h1 hg2
                            obtain ⟨q9, hq9, ht9⟩ := ax_hdl_tag hh
                            have htag : t = 9 ∨ t = 10 := by rw [← ht9]; exact hms.2.2.2.2.2 q9 hq9
                            have hcls : yy.1.cls = "MatrixDeskLaw" := hms.2.2.2.2.1.resolve_left (fun z => by
                              rw [List.isEmpty_iff.mp z] at hq9
                              cases hq9)
                            obtain ⟨vm2, X2, hca⟩ := hCa p e R s m args below meth c T' (locs ++ L) _ _ pc A ((st.drop (en.2.2.2.1 % 100)).map (ax_v B X)) w1 i t q M.2.2.2 hpc X' hexec (by rw [← hcls]; exact hown) hW htab hms.2.2.2.2.2 hS' hwi htag hh
                            have hcont := IH _ _ _ _ _ _ _ _ _ hr p e R s m args below meth c T'.heap (locs ++ L) (cells + (w1.length - w.length)) (slots + (ax_sz w1 - ax_sz w)) A M yy hM hy hF hHs hS' hL (fun q hq => (List.mem_append.mp hq).elim (hl q) (hLb q)) hfr hlo (by omega) (by omega)
                            obtain ⟨tt, a1, b1⟩ := onward (w1 := w1) (by omega) (by omega) hcont (T'.setVm vm2) rfl X2
                            refine ⟨tt, hstep _ fun acts => ?_, b1⟩
                            rw [doInvoke_state]
                            exact (hthr i rfl).trans (hca _ a1)
                          · split at hr
                            · rename_i hemp
                              cases hr
                              obtain ⟨T', L, X', hLb, hS', -, hthr⟩ := call _ _ h1 (ax_gr.refl _)
                              rw [List.isEmpty_iff.mp hemp] at htab
                              have hnt : c.exceptionTable.toList = [] := by
                                have : (c.exceptionTable.toList.map (fun h => (h.startPc, h.endPc, h.handlerPc, h.catchType))) = [] := htab
                                exact List.map_eq_nil_iff.mp this
                              obtain ⟨z1, z2, z3, z4, z5⟩ := X'.leaveThrown (B + i) (g := F0 m pc A ((st.drop (en.2.2.2.1 % 100)).map (ax_v B X))) rfl rfl rfl (fun x hx => by rw [hnt] at hx; cases hx) (hlocks := hlk)
                              refine ⟨_, hstep _ fun acts => ?_, locs ++ L, cells + (w'.length - w.length), slots + (ax_sz w' - ax_sz w), by omega, by omega, z2, z3, z4, z5, hS', fun q hq => (List.mem_append.mp hq).elim (hl q) (hLb q)⟩
                              rw [doInvoke_state]
                              exact (hthr i rfl).trans z1
                            · cases hr
                    · cases hr
    · -- a step
      have hg := ax_grow _ _ _ _ _ _ _ _ _ hr
      refine ax_step_ok G hF hL hS hde hck hs ?_ ?_ ?_
      · intro q
        have := hg.1
        simp only at this
        omega
      · intro k q
        have := hg.2
        simp only at this
        omega
      · intro H' A' L cells1 slots1 hS' hL' hl' e1 e2
        refine onward e1 e2 ?_
        exact IH _ _ _ _ _ _ _ _ _ hr p e R s m args below meth c H' (locs ++ L) cells1 slots1 A' M yy hM hy hF hHs hS' hL' (fun q hq => (List.mem_append.mp hq).elim (hl q) (hl' q)) hfr hlo (by omega) (by omega)
