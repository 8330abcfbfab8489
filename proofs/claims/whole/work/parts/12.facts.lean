/-! what the checks say -/
theorem ax_pj_spec {j : Nat} {ks : List Nat} {own : String} {idx a b : Nat} (h : ax_pj j ks own idx a b = true) : ∃ k ws, k ∈ ks ∧ ax_pchk (k, own, idx, a, b, ws) = true := by
  unfold ax_pj at h
  split at h
  · rename_i k o i a' b' ws hp
    simp only [Bool.and_eq_true, decide_eq_true_eq, List.contains_iff_mem] at h
    obtain ⟨⟨⟨⟨h1, rfl⟩, rfl⟩, rfl⟩, rfl⟩ := h
    exact ⟨k, ws, h1, ax_poolOk _ (List.mem_of_getElem? hp)⟩
  · cases h
theorem ax_inl_mem {i : Nat} {c : Jvm.Cond} (h : ax_inl i (some c) = true) : c ∈ lw_tbl := by
  simp only [ax_inl, decide_eq_true_eq] at h
  exact List.mem_of_getElem? h
theorem ax_fl_spec {i a b idx : Nat} {own : String} (h : ax_inl i (ax_fl own idx a b) = true) : ∃ q, cls_all[a]? = some q ∧ b < q.2.2 ∧ (q.2.1 b).1 = q.1 ∧ Cond.fieldLink own idx q.1 (q.2.1 b).2.1 (q.2.1 b).2.2.1 ∈ lw_tbl := by
  unfold ax_fl at h
  split at h
  · rename_i q hq
    split at h
    · rename_i hb
      simp only [Bool.and_eq_true, decide_eq_true_eq, beq_iff_eq] at hb
      exact ⟨q, hq, hb.1, hb.2, ax_inl_mem h⟩
    · cases h
  · cases h
theorem ax_fln_spec {i a b idx : Nat} {own : String} (h : ax_inl i (ax_fln own idx a b) = true) : ∃ q, cls_all[a]? = some q ∧ b < q.2.2 ∧ (q.2.1 b).1 = q.1 ∧ Cond.fieldLinkNest own idx q.1 (q.2.1 b).2.1 (q.2.1 b).2.2.1 "MatrixDesk" ∈ lw_tbl := by
  unfold ax_fln at h
  split at h
  · rename_i q hq
    split at h
    · rename_i hb
      simp only [Bool.and_eq_true, decide_eq_true_eq, beq_iff_eq] at hb
      exact ⟨q, hq, hb.1, hb.2, ax_inl_mem h⟩
    · cases h
  · cases h
theorem ax_field_w {j idx a b : Nat} {own : String} (h : ax_pj j [0, 1] own idx a b = true) : ∃ q, cls_all[a]? = some q ∧ b < q.2.2 ∧ (q.2.1 b).1 = q.1 ∧
    (Cond.fieldLink own idx q.1 (q.2.1 b).2.1 (q.2.1 b).2.2.1 ∈ lw_tbl ∨ Cond.fieldLinkNest own idx q.1 (q.2.1 b).2.1 (q.2.1 b).2.2.1 "MatrixDesk" ∈ lw_tbl) := by
  obtain ⟨k, ws, hk, h⟩ := ax_pj_spec h
  simp only [List.mem_cons, List.not_mem_nil, or_false] at hk
  rcases hk with rfl | rfl
  · have h : ax_pc0 (own, idx, a, b, ws) = true := h
    unfold ax_pc0 at h
    split at h
    · obtain ⟨q, h1, h2, h3, h4⟩ := ax_fl_spec h
      exact ⟨q, h1, h2, h3, Or.inl h4⟩
    · cases h
  · have h : ax_pc1 (own, idx, a, b, ws) = true := h
    unfold ax_pc1 at h
    split at h
    · obtain ⟨q, h1, h2, h3, h4⟩ := ax_fln_spec h
      exact ⟨q, h1, h2, h3, Or.inr h4⟩
    · cases h
theorem ax_field0_w {j idx a b : Nat} {own : String} (h : ax_pj j [0] own idx a b = true) : ∃ q, cls_all[a]? = some q ∧ Cond.fieldLink own idx q.1 (q.2.1 b).2.1 (q.2.1 b).2.2.1 ∈ lw_tbl := by
  obtain ⟨k, ws, hk, h⟩ := ax_pj_spec h
  simp only [List.mem_cons, List.not_mem_nil, or_false] at hk
  subst hk
  have h : ax_pc0 (own, idx, a, b, ws) = true := h
  unfold ax_pc0 at h
  split at h
  · obtain ⟨q, h1, h2, h3, h4⟩ := ax_fl_spec h
    exact ⟨q, h1, h4⟩
  · cases h
theorem ax_stat_w {j idx a b : Nat} {own : String} (h : ax_pj j [2] own idx a b = true) : a = 1 ∧ Cond.fieldLinkNest own idx "MatrixDesk" "UNITS" "[I" "MatrixDesk" ∈ lw_tbl := by
  obtain ⟨k, ws, hk, h⟩ := ax_pj_spec h
  simp only [List.mem_cons, List.not_mem_nil, or_false] at hk
  subst hk
  have h : ax_pc2 (own, idx, a, b, ws) = true := h
  unfold ax_pc2 at h
  split at h
  · simp only [Bool.and_eq_true, decide_eq_true_eq] at h
    exact ⟨h.1, ax_inl_mem h.2⟩
  · cases h
theorem ax_new_w {j idx a b : Nat} {own : String} (h : ax_pj j [3] own idx a b = true) : ∃ q, cls_all[a]? = some q ∧ a < 11 ∧ Cond.classLink own idx q.1 ∈ lw_tbl ∧ Cond.instantiable q.1 q.2.2 ∈ lw_tbl ∧ Cond.initialized q.1 ∈ lw_tbl := by
  obtain ⟨k, ws, hk, h⟩ := ax_pj_spec h
  simp only [List.mem_cons, List.not_mem_nil, or_false] at hk
  subst hk
  have h : ax_pc3 (own, idx, a, b, ws) = true := h
  unfold ax_pc3 at h
  split at h
  · rename_i q _ hq
    simp only [Bool.and_eq_true, decide_eq_true_eq] at h
    exact ⟨_, hq, h.1.1.1, ax_inl_mem h.1.1.2, ax_inl_mem h.1.2, ax_inl_mem h.2⟩
  · cases h
theorem ax_anew_w {j idx a b : Nat} {own : String} (h : ax_pj j [4] own idx a b = true) : ∃ C, ax_ty (30 + a) = some (.object C) ∧ Cond.classLink own idx C ∈ lw_tbl ∧ Cond.arrayOver (.object C) ∈ lw_tbl := by
  obtain ⟨k, ws, hk, h⟩ := ax_pj_spec h
  simp only [List.mem_cons, List.not_mem_nil, or_false] at hk
  subst hk
  have h : ax_pc4 (own, idx, a, b, ws) = true := h
  unfold ax_pc4 at h
  split at h
  · simp only [Bool.and_eq_true, decide_eq_true_eq] at h
    exact ⟨_, h.1.1, ax_inl_mem h.1.2, ax_inl_mem h.2⟩
  · cases h
theorem ax_int_w {j idx a : Nat} {own : String} (h : ax_pj j [5] own idx a 0 = true) : ∃ x, ax_kI[a]? = some x ∧ Cond.constant own idx x ∈ lw_tbl := by
  obtain ⟨k, ws, hk, h⟩ := ax_pj_spec h
  simp only [List.mem_cons, List.not_mem_nil, or_false] at hk
  subst hk
  have h : ax_pc5 (own, idx, a, 0, ws) = true := h
  unfold ax_pc5 at h
  split at h
  · rename_i x _ hx
    exact ⟨_, hx, ax_inl_mem h⟩
  · cases h
theorem ax_long_w {j idx a : Nat} {own : String} (h : ax_pj j [6] own idx a 0 = true) : ∃ x, ax_kJ[a]? = some x ∧ Cond.constantLong own idx x ∈ lw_tbl := by
  obtain ⟨k, ws, hk, h⟩ := ax_pj_spec h
  simp only [List.mem_cons, List.not_mem_nil, or_false] at hk
  subst hk
  have h : ax_pc6 (own, idx, a, 0, ws) = true := h
  unfold ax_pc6 at h
  split at h
  · rename_i x _ hx
    exact ⟨_, hx, ax_inl_mem h⟩
  · cases h
theorem ax_str_w {j idx a : Nat} {own : String} (h : ax_pj j [7] own idx a 0 = true) : 2 ≤ a ∧ a < 6 ∧ own = "MatrixDesk" ∧ idx = ax_ix a := by
  obtain ⟨k, ws, hk, h⟩ := ax_pj_spec h
  simp only [List.mem_cons, List.not_mem_nil, or_false] at hk
  subst hk
  have h : ax_pc7 (own, idx, a, 0, ws) = true := h
  unfold ax_pc7 at h
  split at h
  · simp only [Bool.and_eq_true, decide_eq_true_eq] at h
    exact ⟨h.1.1.1.1, h.1.1.1.2, h.1.1.2, h.1.2⟩
  · cases h
def ax_lm (own : String) (idx : Nat) (y : MethodName) : Prop := Cond.methodLink own idx y ∈ lw_tbl ∨ Cond.methodLinkNest own idx y "MatrixDesk" ∈ lw_tbl
theorem ax_ml_lm {nest : Bool} {own : String} {idx i : Nat} {y : MethodName} (h : ax_inl i (some (ax_ml nest own idx y)) = true) : ax_lm own idx y := by
  unfold ax_ml at h
  cases nest
  · exact Or.inl (ax_inl_mem h)
  · exact Or.inr (ax_inl_mem h)
theorem ax_yok_spec {y : MethodName} (h : ax_yok y = true) : y.cls ≠ "java/lang/invoke/MethodHandle" ∧ y.cls ≠ "java/lang/invoke/VarHandle" := by
  simp only [ax_yok, Bool.and_eq_true, decide_eq_true_eq] at h
  exact h
theorem ax_npar_spec {d : String} {n : Nat} (h : ax_npar d = some n) : ∀ sig, parseMethodDescriptor d = some sig → n = sig.parameters.length := by
  intro sig hs
  unfold ax_npar at h
  rw [hs] at h
  exact (Option.some.inj h).symm
theorem ax_pcS_spec {nest : Bool} {own : String} {idx a b : Nat} {ws : List Nat} (h : ax_pcS nest (own, idx, a, b, ws) = true) : ∃ y, ax_who[a]? = some y ∧ (y.1.cls ≠ "java/lang/invoke/MethodHandle" ∧ y.1.cls ≠ "java/lang/invoke/VarHandle") ∧ b < 100 ∧ ax_npar y.1.desc = some b ∧ ax_lm own idx y.1 ∧ Cond.static y.1 ∈ lw_tbl ∧ Cond.initialized y.1.cls ∈ lw_tbl := by
  unfold ax_pcS at h
  split at h
  · rename_i hy
    simp only [Bool.and_eq_true, decide_eq_true_eq] at h
    obtain ⟨⟨⟨⟨⟨h1, h2⟩, h3⟩, h4⟩, h5⟩, h6⟩ := h
    exact ⟨_, hy, ax_yok_spec h1, h2, h3, ax_ml_lm h4, ax_inl_mem h5, ax_inl_mem h6⟩
  · cases h
theorem ax_stt_w {j idx a b : Nat} {own : String} (h : ax_pj j [10, 13] own idx a b = true) : ∃ y, ax_who[a]? = some y ∧ (y.1.cls ≠ "java/lang/invoke/MethodHandle" ∧ y.1.cls ≠ "java/lang/invoke/VarHandle") ∧ b < 100 ∧ ax_npar y.1.desc = some b ∧ ax_lm own idx y.1 ∧ Cond.static y.1 ∈ lw_tbl ∧ Cond.initialized y.1.cls ∈ lw_tbl := by
  obtain ⟨k, ws, hk, h⟩ := ax_pj_spec h
  simp only [List.mem_cons, List.not_mem_nil, or_false] at hk
  rcases hk with rfl | rfl
  · exact ax_pcS_spec (nest := false) h
  · exact ax_pcS_spec (nest := true) h
theorem ax_pcV_spec {nest : Bool} {own : String} {idx a b : Nat} {ws : List Nat} (h : ax_pcV nest (own, idx, a, b, ws) = true) : ∃ y q, ax_who[a]? = some y ∧ (y.1.cls ≠ "java/lang/invoke/MethodHandle" ∧ y.1.cls ≠ "java/lang/invoke/VarHandle") ∧ 100 ≤ b ∧ cls_all[b / 100 - 1]? = some q ∧ q.1 = y.1.cls ∧ b / 100 - 1 < 11 ∧ (ax_npar y.1.desc).map (fun z => z + 1) = some (b % 100) ∧
    ax_lm own idx y.1 ∧ Cond.instanceMethod y.1 ∈ lw_tbl ∧ Cond.selects y.1.cls y.1 y.1 ∈ lw_tbl ∧ Cond.initialized y.1.cls ∈ lw_tbl := by
  unfold ax_pcV at h
  split at h
  · rename_i hy
    simp only [Bool.and_eq_true, decide_eq_true_eq] at h
    obtain ⟨⟨⟨⟨⟨⟨⟨⟨h1, h2⟩, h3⟩, h3b⟩, h3c⟩, h4⟩, h5⟩, h6⟩, h7⟩ := h
    obtain ⟨q, hq, hqc⟩ := Option.map_eq_some_iff.mp h3
    exact ⟨_, q, hy, ax_yok_spec h1, h2, hq, hqc, h3b, h3c, ax_ml_lm h4, ax_inl_mem h5, ax_inl_mem h6, ax_inl_mem h7⟩
  · cases h
theorem ax_vrt_w {j idx a b : Nat} {own : String} (h : ax_pj j [11, 14] own idx a b = true) : ∃ y q, ax_who[a]? = some y ∧ (y.1.cls ≠ "java/lang/invoke/MethodHandle" ∧ y.1.cls ≠ "java/lang/invoke/VarHandle") ∧ 100 ≤ b ∧ cls_all[b / 100 - 1]? = some q ∧ q.1 = y.1.cls ∧ b / 100 - 1 < 11 ∧ (ax_npar y.1.desc).map (fun z => z + 1) = some (b % 100) ∧
    ax_lm own idx y.1 ∧ Cond.instanceMethod y.1 ∈ lw_tbl ∧ Cond.selects y.1.cls y.1 y.1 ∈ lw_tbl ∧ Cond.initialized y.1.cls ∈ lw_tbl := by
  obtain ⟨k, ws, hk, h⟩ := ax_pj_spec h
  simp only [List.mem_cons, List.not_mem_nil, or_false] at hk
  rcases hk with rfl | rfl
  · exact ax_pcV_spec (nest := false) h
  · exact ax_pcV_spec (nest := true) h
theorem ax_pcI_spec {nest : Bool} {own : String} {idx a b : Nat} {ws : List Nat} (h : ax_pcI nest (own, idx, a, b, ws) = true) : ∃ y, ax_who[a]? = some y ∧ (y.1.cls ≠ "java/lang/invoke/MethodHandle" ∧ y.1.cls ≠ "java/lang/invoke/VarHandle") ∧ y.1.name = "<init>" ∧ y.2.2.1 = none ∧ 100 ≤ b ∧ (ax_npar y.1.desc).map (fun z => z + 1) = some (b % 100) ∧
    ax_lm own idx y.1 ∧ Cond.instanceMethod y.1 ∈ lw_tbl ∧ Cond.initialized y.1.cls ∈ lw_tbl := by
  unfold ax_pcI at h
  split at h
  · rename_i hy
    simp only [Bool.and_eq_true, decide_eq_true_eq] at h
    obtain ⟨⟨⟨⟨⟨⟨⟨h1, h2⟩, h2b⟩, h3⟩, h3c⟩, h4⟩, h5⟩, h6⟩ := h
    exact ⟨_, hy, ax_yok_spec h1, h2, h2b, h3, h3c, ax_ml_lm h4, ax_inl_mem h5, ax_inl_mem h6⟩
  · cases h
theorem ax_ini_w {j idx a b : Nat} {own : String} (h : ax_pj j [12, 15] own idx a b = true) : ∃ y, ax_who[a]? = some y ∧ (y.1.cls ≠ "java/lang/invoke/MethodHandle" ∧ y.1.cls ≠ "java/lang/invoke/VarHandle") ∧ y.1.name = "<init>" ∧ y.2.2.1 = none ∧ 100 ≤ b ∧ (ax_npar y.1.desc).map (fun z => z + 1) = some (b % 100) ∧
    ax_lm own idx y.1 ∧ Cond.instanceMethod y.1 ∈ lw_tbl ∧ Cond.initialized y.1.cls ∈ lw_tbl := by
  obtain ⟨k, ws, hk, h⟩ := ax_pj_spec h
  simp only [List.mem_cons, List.not_mem_nil, or_false] at hk
  rcases hk with rfl | rfl
  · exact ax_pcI_spec (nest := false) h
  · exact ax_pcI_spec (nest := true) h
theorem ax_one_w {y : MethodName} {own : String} {idx a b : Nat} {ws : List Nat} (h : ax_pcO y (own, idx, a, b, ws) = true) : Cond.methodLink own idx y ∈ lw_tbl := by
  unfold ax_pcO at h
  split at h
  · exact ax_inl_mem h
  · cases h
theorem ax_obj_w {j idx : Nat} {own : String} (h : ax_pj j [20] own idx 1000 0 = true) : Cond.methodLink own idx Lib.objectInit ∈ lw_tbl := by
  obtain ⟨k, ws, hk, h⟩ := ax_pj_spec h
  simp only [List.mem_cons, List.not_mem_nil, or_false] at hk
  subst hk
  exact ax_one_w (y := Lib.objectInit) h
theorem ax_cpy_w {j idx : Nat} {own : String} (h : ax_pj j [22] own idx 1002 0 = true) : Cond.methodLink own idx arraycopyName ∈ lw_tbl := by
  obtain ⟨k, ws, hk, h⟩ := ax_pj_spec h
  simp only [List.mem_cons, List.not_mem_nil, or_false] at hk
  subst hk
  exact ax_one_w (y := arraycopyName) h
theorem ax_exc_w {j idx t : Nat} {own : String} (h : ax_pj j [21] own idx 1001 t = true) : Cond.methodLink own idx (ax_xn t) ∈ lw_tbl := by
  obtain ⟨k, ws, hk, h⟩ := ax_pj_spec h
  simp only [List.mem_cons, List.not_mem_nil, or_false] at hk
  subst hk
  have h : ((decide (t = 9) || decide (t = 10)) && ax_pcO (ax_xn t) (own, idx, 1001, t, ws)) = true := h
  simp only [Bool.and_eq_true] at h
  exact ax_one_w h.2
theorem ax_cchk_spec {own : String} {isInit : Bool} {bytes : ByteArray} {code : List (Option ax_E)} {q : Nat} (h : ax_cchk own isInit bytes q code = true) {pc : Nat} {e : ax_E} (he : code[pc]? = some (some e)) : decode bytes (q + pc) = .ok (e.1, e.2.1) ∧ ax_echk own isInit (q + pc) e = true := by
  induction code generalizing q pc with
  | nil => simp at he
  | cons x r ih =>
    cases pc with
    | zero =>
      simp only [List.getElem?_cons_zero, Option.some.injEq] at he
      subst he
      simp only [ax_cchk, Bool.and_eq_true, decide_eq_true_eq] at h
      exact ⟨h.1.1, h.1.2⟩
    | succ k =>
      rw [List.getElem?_cons_succ] at he
      have h2 : ax_cchk own isInit bytes (q + 1) r = true := by
        cases x with
        | none => exact h
        | some y => simp only [ax_cchk, Bool.and_eq_true] at h; exact h.2
      have := ih h2 he
      rw [show q + 1 + k = q + (k + 1) from by omega] at this
      exact this
