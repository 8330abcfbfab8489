/-! THE ABSTRACT MACHINE IS SOUND -/
section AX10
variable {p : Program} {l : Launch} {e : Env} {R : Room} {s : State} {m : MethodId} {args : Array Value} {below : List Frame} {meth : Method} {c : Code} {H : Heap} {locs : List Loc} {cells slots : Nat} {Q : State → Prop}
variable {pc pc' : Nat} {A : Array Slot} {B : Nat} {X : Nat → Value} {D : va_G} {H0 : Heap} {w w' : ax_W} {st st' : List Value} {ls ls' : List (Option Value)} {xs : List Int32} {s0 : State} {A0 : Array Value}
variable {y : MethodName} {bytes : ByteArray} {maxL : Nat} {ret : Option FieldType} {hs : List (Nat × Nat × Nat × Nat)} {en : ax_E}
theorem ax_st_notable {d lo hi : Int} {offs : Array Int} : ax_st (.tableswitch d lo hi offs) ls st = none := rfl
theorem ax_sto_notable {d lo hi : Int} {offs : Array Int} : ax_sto (.tableswitch d lo hi offs) ls st = none := rfl
theorem ax_step_ok (G : ax_G s0 A0 D B X H0 xs) (hF : ax_Fr s0 y bytes maxL ret hs p s m meth c) (hL : ax_L B X A maxL ls) (hS : ax_Sim B X D H0 w H) (hde : decode bytes pc = .ok (en.1, en.2.1)) (hck : ax_echk y.cls (decide (y.name = "<init>")) pc en = true)
    (h : ax_step ax_kinds ax_kI ax_kJ xs en pc ls st w = some (pc', ls', st', w')) (hcell : w'.length = w.length + 1 → cells + 1 ≤ R.cells) (hslot : ∀ k, ax_sz w' = ax_sz w + k → slots + k ≤ R.slots)
    (kk : ∀ (H' : Heap) (A' : Array Slot) (L : List Loc) (cells' slots' : Nat), ax_Sim B X D H0 w' H' → ax_L B X A' maxL ls' → (∀ q ∈ L, B ≤ q.base) → cells' + w.length = cells + w'.length → slots' + ax_sz w = slots + ax_sz w' → W p l e R s m args below meth c H' (locs ++ L) cells' slots' Q (F0 m pc' A' (st'.map (ax_v B X)))) :
    W p l e R s m args below meth c H locs cells slots Q (F0 m pc A (st.map (ax_v B X))) := by
  have hX := G.2.2.2.1
  unfold ax_step at h
  split at h
  · rename_i st1 h1
    cases h
    have hlen : en.2.1 = ax_len en.1 := ax_echk_len hck (fun d lo hi offs q => by rw [q] at h1; cases h1)
    have := kk H A [] cells slots hS hL (fun q hq => absurd hq List.not_mem_nil) rfl rfl
    rw [List.append_nil, hlen] at this
    rw [hlen] at hde
    exact ax_st_ok hX hF.1 hF.2.1 hL hde h1 this
  · split at h
    · rename_i ls1 st1 h1
      cases h
      have hlen : en.2.1 = ax_len en.1 := ax_echk_len hck (fun d lo hi offs q => by rw [q] at h1; cases h1)
      rw [hlen] at hde
      refine ax_sto_ok hX hF.1 hF.2.1 hL hde h1 fun A' hL' => ?_
      have := kk H A' [] cells slots hS hL' (fun q hq => absurd hq List.not_mem_nil) rfl rfl
      rw [List.append_nil, hlen] at this
      exact this
    · split at h
      · rename_i pc1 st1 h1
        cases h
        have := kk H A [] cells slots hS hL (fun q hq => absurd hq List.not_mem_nil) rfl rfl
        rw [List.append_nil] at this
        obtain ⟨ins, len, ea, eb, ej⟩ := en
        simp only at hde h1
        refine ax_br_ok hF.1 hF.2.1 hde ?_ ?_ ?_ h1 this
        · intro hq
          unfold ax_br at h1
          split at h1
          · unfold ax_echk at hck
            simp only [Bool.and_eq_true, decide_eq_true_eq] at hck
            exact hck.1
          · unfold ax_echk at hck
            simp only [Bool.and_eq_true, decide_eq_true_eq] at hck
            exact hck.1
          · unfold ax_echk at hck
            simp only [Bool.and_eq_true, decide_eq_true_eq] at hck
            exact hck.1
          · exact absurd rfl (hq _ _ _ _)
          · cases h1
        · intro off hq
          rcases hq with rfl | ⟨q, rfl⟩ | ⟨q, rfl⟩
          · unfold ax_echk at hck
            simp only [Bool.and_eq_true, decide_eq_true_eq] at hck
            exact hck.2
          · unfold ax_echk at hck
            simp only [Bool.and_eq_true, decide_eq_true_eq] at hck
            exact hck.2
          · unfold ax_echk at hck
            simp only [Bool.and_eq_true, decide_eq_true_eq] at hck
            exact hck.2
        · intro d lo hi offs hq
          subst hq
          unfold ax_echk at hck
          simp only [Bool.and_eq_true, decide_eq_true_eq, Array.all_eq_true'] at hck
          exact ⟨hck.1, fun o ho => hck.2 o ho⟩
      · split at h
        · rename_i st1 w1 h1
          cases h
          exact ax_hp_ok G hF hS hde hck h1 hcell hslot fun H' L c' s' a1 a2 a3 a4 => kk H' A L c' s' a1 hL a2 a3 a4
        · cases h
def ax_Q (B : Nat) (X : Nat → Value) (D : va_G) (H0 : Heap) (s : State) (below : List Frame) (o : Outcome) (w w' : ax_W) (cells slots : Nat) (t : State) : Prop :=
  ∃ (L : List Loc) (k n : Nat), k + w.length = cells + w'.length ∧ n + ax_sz w = slots + ax_sz w' ∧ t.status = .running ∧ Ended t below (ax_o B X o) ∧ s.WarmedH t.vm ∧ s.sameButNew ({ t with vm := s.vm } : State) L k n ∧ ax_Sim B X D H0 w' t.heap ∧ ∀ q ∈ L, B ≤ q.base
theorem ax_Wm {Q' : State → Prop} {g : JFrame} (h : ∀ t, Q t → Q' t) (k : W p l e R s m args below meth c H locs cells slots Q g) : W p l e R s m args below meth c H locs cells slots Q' g := fun T hT X => by
  obtain ⟨t, a, b⟩ := k T hT X
  exact ⟨t, a, h t b⟩
theorem ax_Q.of {o : Outcome} (hS : ax_Sim B X D H0 w H) (hl : ∀ q ∈ locs, B ≤ q.base) {t : State} (h : MQ below (fun _ _ o' t => o' = ax_o B X o ∧ t.heap = H) args s cells slots (fun q => B ≤ q) t) : ax_Q B X D H0 s below o w w cells slots t := by
  obtain ⟨o', h1, h2, ⟨rfl, h4⟩, L, ⟨-, h6, h7⟩, h8⟩ := h
  exact ⟨L, cells, slots, rfl, rfl, h1, h2, h6, h7, by rw [h4]; exact hS, h8⟩
theorem ax_ret_ok {rk : Nat} {i : Instr} {v : Option Value} (hF : ax_Fr s0 y bytes maxL ret hs p s m meth c) (hrk : ax_rk rk ret = true) (hS : ax_Sim B X D H0 w H) (hl : ∀ q ∈ locs, B ≤ q.base) {len : Nat} (hde : decode bytes pc = .ok (i, len)) (hlen : len = ax_len i) (h : ax_ret rk i st = some v) :
    W p l e R s m args below meth c H locs cells slots (ax_Q B X D H0 s below (.returned v) w w cells slots) (F0 m pc A (st.map (ax_v B X))) := by
  obtain ⟨hexec, hb, -, hr, hlk, -⟩ := hF
  subst hlen
  unfold ax_ret at h
  split at h
  · split at h
    · split at h
      · rename_i h0
        cases h
        subst h0
        refine ax_Wm (fun t => ax_Q.of hS hl) (W.vret hexec hb ?_ (fun t ht _ => ⟨rfl, ht⟩) hl hde (hlocks := hlk))
        rw [hr]
        cases ret with
        | none => rfl
        | some t => simp [ax_rk] at hrk
      · cases h
    · cases h
  · split at h
    · rename_i x
      split at h
      · rename_i h1
        cases h
        subst h1
        refine ax_Wm (fun t => ax_Q.of hS hl) (W.iret hexec hb ?_ (fun t ht _ => ⟨rfl, ht⟩) hl hde (hlocks := hlk))
        rw [hr]
        cases ret with
        | none => simp [ax_rk] at hrk
        | some t => cases t <;> simp [ax_rk] at hrk; rfl
      · split at h
        · rename_i h2
          subst h2
          have hret : meth.sig.returnType = some .boolean := by
            rw [hr]
            cases ret with
            | none => simp [ax_rk] at hrk
            | some t => cases t <;> simp [ax_rk] at hrk; rfl
          split at h
          · rename_i hx
            subst hx
            cases h
            exact ax_Wm (fun t => ax_Q.of hS hl) (W.zret hexec hb hret rfl (fun t ht _ => ⟨rfl, ht⟩) hl hde (hlocks := hlk))
          · split at h
            · rename_i hx
              subst hx
              cases h
              exact ax_Wm (fun t => ax_Q.of hS hl) (W.zret hexec hb hret rfl (fun t ht _ => ⟨rfl, ht⟩) hl hde (hlocks := hlk))
            · cases h
        · cases h
    · cases h
  · split at h
    · rename_i x
      split at h
      · rename_i h1
        cases h
        subst h1
        refine ax_Wm (fun t => ax_Q.of hS hl) (W.lret hexec hb ?_ (fun t ht _ => ⟨rfl, ht⟩) hl hde (hlocks := hlk))
        rw [hr]
        cases ret with
        | none => simp [ax_rk] at hrk
        | some t => cases t <;> simp [ax_rk] at hrk; rfl
      · cases h
    · cases h
  · split at h
    · rename_i x
      split at h
      · rename_i h1
        cases h
        subst h1
        have hret : ∃ t, ret = some t ∧ ((∃ n, t = .object n) ∨ ∃ u, t = .array u) := by
          cases ret with
          | none => simp [ax_rk] at hrk
          | some t => cases t <;> simp [ax_rk] at hrk <;> first | exact ⟨_, rfl, Or.inl ⟨_, rfl⟩⟩ | exact ⟨_, rfl, Or.inr ⟨_, rfl⟩⟩
        obtain ⟨t, rfl, ht⟩ := hret
        exact ax_Wm (fun t => ax_Q.of hS hl) (W.aret hexec hb hr ht (Or.inr ⟨_, rfl⟩) (fun t ht _ => ⟨rfl, ht⟩) hl hde (hlocks := hlk))
      · cases h
    · cases h
  · cases h
end AX10
