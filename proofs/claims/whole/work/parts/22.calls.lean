/-! calls in the abstract machine -/
/-- no word makes the law a callee; no method of its class has a receiver -/
def ax_nl (w : Jvm.Cond) : Bool := match w with
  | .instanceMethod y => decide (y.cls ≠ "MatrixDeskLaw")
  | .static y => decide (y ≠ ⟨"MatrixDeskLaw", "law", "([I)Z"⟩)
  | _ => true
set_option maxRecDepth 100000 in
theorem ax_nlaw : lw_tbl.all ax_nl = true := by decide +kernel
theorem ax_noinst {y : MethodName} (h : Cond.instanceMethod y ∈ lw_tbl) : y.cls ≠ "MatrixDeskLaw" := by
  have := List.all_eq_true.mp ax_nlaw _ h
  simpa [ax_nl] using this
theorem ax_nostat {y : MethodName} (h : Cond.static y ∈ lw_tbl) : y ≠ ⟨"MatrixDeskLaw", "law", "([I)Z"⟩ := by
  have := List.all_eq_true.mp ax_nlaw _ h
  simpa [ax_nl] using this
theorem ax_mspec {z : Nat} {M : ax_M} {yy : MethodName × ByteArray × Option FieldType × Nat} (hM : ax_prog[z]? = some M) (hy : ax_who[z]? = some yy) : ax_cchk yy.1.cls (decide (yy.1.name = "<init>")) yy.2.1 0 M.1 = true ∧ ax_rk M.2.2.1 yy.2.2.1 = true ∧ plainFor yy.1 = true ∧ (z = 185 ∨ ax_cw yy.1 yy.2.1 M.2.1 yy.2.2.1 M.2.2.2 ∈ lw_tbl) ∧ (M.2.2.2.isEmpty = true ∨ yy.1.cls = "MatrixDeskLaw") ∧ ∀ q ∈ M.2.2.2, q.2.2.2 = 9 ∨ q.2.2.2 = 10 := by
  have hz : z < 186 := (List.getElem?_eq_some_iff.mp hM).1
  have h := ax_mall z hz
  unfold ax_mchk at h
  rw [hM, hy] at h
  simp only [Bool.and_eq_true, Bool.or_eq_true, decide_eq_true_eq, List.all_eq_true] at h
  obtain ⟨⟨⟨⟨⟨h1, h2⟩, h3⟩, h4⟩, h5⟩, h6⟩ := h
  exact ⟨h1, h2, h3, h4.imp id ax_inl_mem, h5, h6⟩
theorem ax_who185 : ax_who[185]? = some (⟨"MatrixDeskLaw", "law", "([I)Z"⟩, code, some .boolean, 0) := rfl
theorem ax_cw_keep (y : MethodName) (bytes : ByteArray) (maxL : Nat) (ret : Option FieldType) (tab : List (Nat × Nat × Nat × Nat)) : ax_keep (ax_cw y bytes maxL ret tab) = true := by
  unfold ax_cw
  split <;> rfl
theorem ax_cw_cf {y : MethodName} {bytes : ByteArray} {maxL : Nat} {ret : Option FieldType} {tab : List (Nat × Nat × Nat × Nat)} {U : State} {a : Array Value} {mk : MethodId} (hn : U.methodNamed? y = some mk) (h : (ax_cw y bytes maxL ret tab).before a U = true) : ax_cf y bytes maxL ret (ax_ht tab) U := by
  unfold ax_cw at h
  split at h
  · rename_i ht
    rw [List.isEmpty_iff.mp ht]
    exact ax_cf.of_code hn h
  · exact ax_cf.of_with h
theorem ax_rcv_spec {t : Nat} {as : List Value} {w : ax_W} (h : ax_rcv (t + 1) as w = true) : ∃ i r q, as = .ref i :: r ∧ w[i]? = some (t, q) := by
  unfold ax_rcv at h
  simp only at h
  split at h
  · split at h
    · rename_i t' q hw
      simp only [beq_iff_eq] at h
      subst h
      exact ⟨_, _, _, rfl, hw⟩
    · cases h
  · cases h
section AX11
variable {p : Program} {l : Launch} {e : Env} {R : Room} {s : State} {m : MethodId} {args : Array Value} {below : List Frame} {meth : Method} {c : Code} {H : Heap} {locs : List Loc} {cells slots : Nat} {Q : State → Prop}
variable {pc : Nat} {A : Array Slot} {B : Nat} {X : Nat → Value} {D : va_G} {H0 : Heap} {w w' : ax_W} {st st' : List Value} {ls ls' : List (Option Value)} {xs : List Int32} {s0 : State} {A0 : Array Value}
variable {y : MethodName} {bytes : ByteArray} {maxL : Nat} {ret : Option FieldType} {hs : List (Nat × Nat × Nat × Nat)} {en : ax_E}
theorem ax_lm_link (G : ax_G s0 A0 D B X H0 xs) (hW : s0.WarmedH s.vm) {own : String} {idx : Nat} {y : MethodName} (h : ax_lm own idx y) : (Cond.methodLink own idx y).before args s = true ∨ ∃ host, (Cond.methodLinkNest own idx y host).before args s = true := by
  rcases h with h | h
  · exact Or.inl (G.word hW h rfl)
  · exact Or.inr ⟨_, G.word hW h rfl⟩
theorem ax_split {n : Nat} (h : ¬ st.length < n) : st = (st.take n).reverse.reverse ++ st.drop n := by
  rw [List.reverse_reverse, List.take_append_drop]
theorem ax_invoked (G : ax_G s0 A0 D B X H0 xs) (hF : ax_Fr s0 y bytes maxL ret hs p s m meth c) {T : State} (XX : Stand p l e R s m args below meth c T locs cells slots) (hS : ax_Sim B X D H0 w T.heap) (hde : decode bytes pc = .ok (en.1, en.2.1)) (hck : ax_echk y.cls (decide (y.name = "<init>")) pc en = true)
    (hinv : (∃ idx, en.1 = .invokevirtual idx) ∨ (∃ idx, en.1 = .invokestatic idx) ∨ ∃ idx, en.1 = .invokespecial idx) (ha : ¬ 1000 ≤ en.2.2.1) {M' : ax_M} (hM' : ax_prog[en.2.2.1]? = some M') (hst : ¬ st.length < en.2.2.2.1 % 100) (hrcv : ax_rcv (en.2.2.2.1 / 100) (st.take (en.2.2.2.1 % 100)).reverse w = true) :
    ∃ yy, ax_who[en.2.2.1]? = some yy ∧ en.2.2.1 ≠ 185 ∧ Cond.initialized yy.1.cls ∈ lw_tbl ∧ en.2.1 = 3 ∧ ax_Iv p l e R s m args below meth c T locs cells slots (F0 m pc A (st.map (ax_v B X))) ((st.drop (en.2.2.2.1 % 100)).map (ax_v B X)) yy.1 ((st.take (en.2.2.2.1 % 100)).reverse.map (ax_v B X)) := by
  obtain ⟨hexec, hb, hml, -, -, hown, hname, -, hW⟩ := hF
  obtain ⟨-, hK0, -⟩ := id G
  have hK := hK0.moved hW.alike
  obtain ⟨ins, len, ea, eb, ej⟩ := en
  simp only at hde hinv ha hM' hst hrcv ⊢
  have hsp := ax_split hst
  have hstm : st.map (ax_v B X) = ((st.take (eb % 100)).reverse.map (ax_v B X)).reverse ++ (st.drop (eb % 100)).map (ax_v B X) := by
    rw [← List.map_reverse, ← List.map_append, ← hsp]
  have hlen : (st.take (eb % 100)).reverse.length = eb % 100 := by
    rw [List.length_reverse, List.length_take]; omega
  rcases hinv with ⟨idx, rfl⟩ | ⟨idx, rfl⟩ | ⟨idx, rfl⟩
  · unfold ax_echk at hck
    simp only [Bool.and_eq_true, decide_eq_true_eq] at hck
    obtain ⟨⟨h3, -⟩, hpj⟩ := hck
    subst h3
    obtain ⟨yy, q, hy, hyok, hb1, hq, hqc, hb2, hnp, hlm, hin, hsl, hini⟩ := ax_vrt_w hpj
    obtain ⟨t, ht⟩ : ∃ t, eb / 100 = t + 1 := ⟨eb / 100 - 1, by omega⟩
    rw [ht] at hrcv hq hb2
    rw [Nat.add_sub_cancel] at hq hb2
    obtain ⟨i, r, fs, has, hwi⟩ := ax_rcv_spec hrcv
    obtain ⟨cell, c1, c2⟩ := hS.2.1 i _ hwi
    have h185 : ea ≠ 185 := fun q185 => by
      subst q185
      rw [ax_who185] at hy
      cases hy
      exact ax_noinst hin rfl
    have hcw := (ax_mspec hM' hy).2.2.2.1.resolve_left h185
    have hcwb := G.word (args := args) hW hcw (ax_cw_keep _ _ _ _ _)
    obtain ⟨mk, -, hnamed, -⟩ := Cond.instanceMethod_spec (G.word (args := args) hW hin rfl)
    refine ⟨yy, hy, h185, hini, rfl, ?_⟩
    rw [has] at hstm hlen ⊢
    refine ax_Iv.virt XX hexec hown (ax_lm_link G hW hlm) (G.word hW hin rfl) (G.word hW hsl rfl) (ax_cw_cf hnamed hcwb) hyok (b := B + i) (cellB := cell) c1 (by rw [c2.2.1]; rfl) ?_ rfl (argsL := r.map (ax_v B X)) (rest := (st.drop (eb % 100)).map (ax_v B X)) ?_ ?_ (by rw [hb]; exact hde)
    · rw [c2.1, ← hqc]; exact (hK.1 t q hq).2.1
    · intro sig hsig
      obtain ⟨n, hn, hn2⟩ := Option.map_eq_some_iff.mp hnp
      have := ax_npar_spec hn sig hsig
      rw [List.length_map]
      simp only [List.length_cons] at hlen
      omega
    · show st.map (ax_v B X) = _
      rw [hstm]
      simp [ax_v]
  · unfold ax_echk at hck
    simp only [Bool.and_eq_true, Bool.or_eq_true, decide_eq_true_eq] at hck
    obtain ⟨h3, h4⟩ := hck
    subst h3
    rcases h4 with ⟨h5, -⟩ | ⟨-, hpj⟩
    · exact absurd (by omega) ha
    obtain ⟨yy, hy, hyok, hb1, hnp, hlm, hstt, hini⟩ := ax_stt_w hpj
    have h185 : ea ≠ 185 := fun q185 => by
      subst q185
      rw [ax_who185] at hy
      cases hy
      exact ax_nostat hstt rfl
    have hcw := (ax_mspec hM' hy).2.2.2.1.resolve_left h185
    have hcwb := G.word (args := args) hW hcw (ax_cw_keep _ _ _ _ _)
    have hcf : ax_cf yy.1 yy.2.1 M'.2.1 yy.2.2.1 (ax_ht M'.2.2.2) s := by
      unfold ax_cw at hcwb
      split at hcwb
      · rename_i ht
        obtain ⟨mk, hnamed⟩ := Cond.code_named hcwb
        rw [List.isEmpty_iff.mp ht]
        exact ax_cf.of_code hnamed hcwb
      · exact ax_cf.of_with hcwb
    refine ⟨yy, hy, h185, hini, rfl, ?_⟩
    refine ax_Iv.stat XX hexec hown (ax_lm_link G hW hlm) (G.word hW hstt rfl) (G.word hW hini rfl) hcf hyok rfl ?_ ?_ (by rw [hb]; exact hde)
    · intro sig hsig
      have := ax_npar_spec hnp sig hsig
      rw [List.length_map, hlen, ← this]
      omega
    · exact hstm
  · unfold ax_echk at hck
    simp only [Bool.and_eq_true, Bool.or_eq_true, decide_eq_true_eq] at hck
    obtain ⟨h3, h4⟩ := hck
    subst h3
    rcases h4 with (⟨h5, -⟩ | ⟨h5, -⟩) | ⟨-, hpj⟩
    · exact absurd (by omega) ha
    · exact absurd (by omega) ha
    obtain ⟨yy, hy, hyok, hnm, hrn, hb1, hnp, hlm, hin, hini⟩ := ax_ini_w hpj
    have h185 : ea ≠ 185 := fun q185 => by
      subst q185
      rw [ax_who185] at hy
      cases hy
      exact ax_noinst hin rfl
    have hms := ax_mspec hM' hy
    have hcw := hms.2.2.2.1.resolve_left h185
    have hemp : M'.2.2.2.isEmpty = true := hms.2.2.2.2.1.resolve_right (ax_noinst hin)
    have hcwb := G.word (args := args) hW hcw (ax_cw_keep _ _ _ _ _)
    unfold ax_cw at hcwb
    rw [if_pos hemp, hrn] at hcwb
    obtain ⟨t, ht⟩ : ∃ t, eb / 100 = t + 1 := ⟨eb / 100 - 1, by omega⟩
    rw [ht] at hrcv
    obtain ⟨i, r, fs, has, hwi⟩ := ax_rcv_spec hrcv
    refine ⟨yy, hy, h185, hini, rfl, ?_⟩
    rw [has] at hstm hlen ⊢
    refine ax_Iv.init XX hexec hown hnm (ax_lm_link G hW hlm) (G.word hW hin rfl) hcwb hyok rfl (a := B + i) (argsL := r.map (ax_v B X)) ?_ ?_ (by rw [hb]; exact hde)
    · intro sig hsig
      obtain ⟨n, hn, hn2⟩ := Option.map_eq_some_iff.mp hnp
      have := ax_npar_spec hn sig hsig
      rw [List.length_map]
      simp only [List.length_cons] at hlen
      omega
    · show st.map (ax_v B X) = _
      rw [hstm]
      simp [ax_v]
end AX11
