/-! CONSTRUCTORS -/
def chg (w w' : ax_W) (i : Nat) (q : Nat × List Value) : Prop := w'.length = w.length ∧ (∀ j, j ≠ i → w'[j]? = w[j]?) ∧ w'[i]? = some q ∧ ax_sz w' = ax_sz w
def ext1 (w w' : ax_W) (q : Nat × List Value) : Prop := w'.length = w.length + 1 ∧ (∀ j, j < w.length → w'[j]? = w[j]?) ∧ w'[w.length]? = some q ∧ ax_sz w' = ax_sz w + ax_cs q
theorem chg_set {w : ax_W} {i : Nat} {q q' : Nat × List Value} (h : w[i]? = some q) (hc : ax_cs q' = ax_cs q) : chg w (w.set i q') i q' := ⟨by simp, fun j hj => List.getElem?_set_ne (fun e => hj e.symm), by rw [List.getElem?_set_self (List.getElem?_eq_some_iff.mp h).1], sz_set h hc⟩
theorem ext_app (w : ax_W) (q : Nat × List Value) : ext1 w (w ++ [q]) q := ⟨by simp, fun j hj => List.getElem?_append_left hj, by simp, by simp [ax_sz]⟩
theorem rep_aI (n : Nat) : List.replicate n (Value.int 0) = aI n (fun _ => 0) := by
  symm
  rw [List.eq_replicate_iff]
  refine ⟨aI_len _ _, fun b hb => ?_⟩
  unfold aI at hb
  obtain ⟨k, _, rfl⟩ := List.mem_map.mp hb
  rfl
theorem rep_aL (n : Nat) : List.replicate n (Value.long 0) = aL n (fun _ => 0) := by
  symm
  rw [List.eq_replicate_iff]
  refine ⟨aL_len _ _, fun b hb => ?_⟩
  unfold aL at hb
  obtain ⟨k, _, rfl⟩ := List.mem_map.mp hb
  rfl
theorem rg_set {n k : Nat} {f : Nat → Value} {x : Value} : ((List.range n).map f).set k x = (List.range n).map (fun j => if j = k then x else f j) := by
  apply List.ext_getElem?
  intro i
  rw [List.getElem?_set]
  by_cases hi : i < n
  · by_cases e : k = i
    · subst e
      rw [if_pos rfl, if_pos (by simp; omega)]
      simp [hi]
    · rw [if_neg e]
      simp [hi, show ¬ i = k from fun h => e h.symm]
  · by_cases e : k = i
    · subst e
      rw [if_pos rfl, if_neg (by simp; omega)]
      simp [hi]
    · rw [if_neg e]
      simp [hi]
theorem rg_nul (n : Nat) (f : Nat → Value) : (List.range n).map (fun j => if j < 0 then f j else .null) = List.replicate n Value.null := by
  rw [List.eq_replicate_iff]
  refine ⟨by simp, fun b hb => ?_⟩
  obtain ⟨k, _, rfl⟩ := List.mem_map.mp hb
  simp
theorem rg_congr {n : Nat} {f g : Nat → Value} (h : ∀ j, j < n → f j = g j) : (List.range n).map f = (List.range n).map g := by
  apply List.map_congr_left
  intro k hk
  exact h k (List.mem_range.mp hk)
section CT
variable {xs : List Int32} {fr lo z pc p l c u1 u2 u3 idx i k : Nat} {ls : List (Option Value)} {st : List Value} {w : ax_W} {Q : Outcome → ax_W → Prop} {M : ax_M}
theorem k_obj (hM : ax_prog[z]? = some M) (he : M.1[pc]? = some (some (.invokespecial idx, l, 1000, u2, u3))) (hfr : 1 ≤ fr) (hlo : 30 ≤ lo) (hwt : (st.map ax_wt).sum ≤ 8) (kk : fin xs fr lo z (pc + 3) ls st w Q) : fin xs fr lo z pc ls (.ref i :: st) w Q := by
  refine fi_spc hM he inv_p (Nat.le_refl _) (st' := st) (w1 := w) ?_ kk
  show (if fr = 0 then none else if lo < 30 then none else if 8 < (st.map ax_wt).sum then none else some (st, w)) = some (st, w)
  rw [if_neg (by omega), if_neg (by omega), if_neg (by omega)]
theorem k_new {ks : List Nat} (hM : ax_prog[z]? = some M) (he : M.1[pc]? = some (some (.new idx, l, c, u2, u3))) (hp : pc + l = p) (hk : ax_kinds[c]? = some ks) (kk : ∀ w', ext1 w w' (c, ks.map ax_dfl) → fin xs fr lo z p ls (.ref w.length :: st) w' Q) : fin xs fr lo z pc ls st w Q := by
  subst hp
  refine fi_hp hM he rfl rfl rfl (st' := .ref w.length :: st) (w1 := w ++ [(c, ks.map ax_dfl)]) ?_ (kk _ (ext_app _ _))
  simp [ax_hp, ax_new, hk]
theorem k_putf {ks : List Nat} {fk : Nat} {fs : List Value} {v : Value} (hM : ax_prog[z]? = some M) (he : M.1[pc]? = some (some (.putfield idx, l, c, k, u3))) (hp : pc + l = p) (h1 : ax_kinds[c]? = some ks) (h2 : ks[k]? = some fk) (hf : ax_fit fk v = true) (hw : w[i]? = some (c, fs)) (hk : k < fs.length) (kk : ∀ w', chg w w' i (c, fs.set k v) → fin xs fr lo z p ls st w' Q) : fin xs fr lo z pc ls (v :: .ref i :: st) w Q := by
  subst hp
  exact fi_put hM he h1 h2 hf hw hk (kk _ (chg_set hw (by simp [ax_cs])))
theorem k_newa {n : Int} {ty : ArrayType} {t : Nat} {d : Value} (hM : ax_prog[z]? = some M) (he : M.1[pc]? = some (some (.newarray ty, l, u1, u2, u3))) (hp : pc + l = p) (hat : ax_at ty = some (t, d)) (h0 : 0 ≤ n) (h1 : n ≤ 100000) (kk : ∀ w', ext1 w w' (t, List.replicate n.toNat d) → fin xs fr lo z p ls (.ref w.length :: st) w' Q) : fin xs fr lo z pc ls (.int (jI n) :: st) w Q := by
  subst hp
  refine fi_hp hM he rfl rfl rfl (st' := .ref w.length :: st) (w1 := w ++ [(t, List.replicate n.toNat d)]) ?_ (kk _ (ext_app _ _))
  have n1 : ¬ (jI n < 0) := jI_nn h0 (by omega)
  have n2 : ¬ ((100000 : Int32) < jI n) := by rw [show (100000 : Int32) = jI 100000 from rfl, jI_lt (by omega) (by omega) (by omega) (by omega)]; omega
  have n3 : (jI n).toNatClampNeg = n.toNat := jI_nat h0 (by omega)
  simp [ax_hp, hat, ax_newa, n1, n2, n3]
theorem k_anew {n : Int} (hM : ax_prog[z]? = some M) (he : M.1[pc]? = some (some (.anewarray idx, l, c, u2, u3))) (hp : pc + l = p) (h0 : 0 ≤ n) (h1 : n ≤ 100000) (kk : ∀ w', ext1 w w' (30 + c, List.replicate n.toNat .null) → fin xs fr lo z p ls (.ref w.length :: st) w' Q) : fin xs fr lo z pc ls (.int (jI n) :: st) w Q := by
  subst hp
  refine fi_hp hM he rfl rfl rfl (st' := .ref w.length :: st) (w1 := w ++ [(30 + c, List.replicate n.toNat .null)]) ?_ (kk _ (ext_app _ _))
  have n1 : ¬ (jI n < 0) := jI_nn h0 (by omega)
  have n2 : ¬ ((100000 : Int32) < jI n) := by rw [show (100000 : Int32) = jI 100000 from rfl, jI_lt (by omega) (by omega) (by omega) (by omega)]; omega
  have n3 : (jI n).toNatClampNeg = n.toNat := jI_nat h0 (by omega)
  simp [ax_hp, ax_newa, n1, n2, n3]
theorem k_aast {x : Nat} {j : Int} {fs vs : List Value} (hM : ax_prog[z]? = some M) (he : M.1[pc]? = some (some (.aastore, l, u1, u2, u3))) (hp : pc + l = p) (hx : w[x]? = some (c, fs)) (hi : w[i]? = some (30 + c, vs)) (j0 : 0 ≤ j) (j1 : j < vs.length) (j2 : j < 2147483648) (kk : ∀ w', chg w w' i (30 + c, vs.set j.toNat (.ref x)) → fin xs fr lo z p ls st w' Q) : fin xs fr lo z pc ls (.ref x :: .int (jI j) :: .ref i :: st) w Q := by
  subst hp
  refine fi_hp hM he rfl rfl rfl (st' := st) ?_ (kk _ (chg_set hi (by simp [ax_cs])))
  have n1 : ¬ (jI j < 0) := jI_nn j0 j2
  have n3 : (jI j).toNatClampNeg = j.toNat := jI_nat j0 j2
  have n4 : j.toNat < vs.length := by omega
  simp [ax_hp, ax_aast, ax_wr, hx, hi, n1, n3, n4]
/-- a new number at c -/
def whA (w : ax_W) (c : Nat) : Prop := w[c]? = some (7, [.ref (c + 1), .int (jI 0), .int (jI 0)]) ∧ w[c + 1]? = some (20, aI 32 (fun _ => 0))
theorem whA_keep {w w' : ax_W} {c : Nat} (h : whA w c) (h1 : w'[c]? = w[c]?) (h2 : w'[c + 1]? = w[c + 1]?) : whA w' c := ⟨h1.trans h.1, h2.trans h.2⟩
theorem i_wh (hw : w[c]? = some (7, [.null, .int 0, .int 0])) (hfr : 1 ≤ fr) (hlo : 30 ≤ lo) : fin xs fr lo 4 0 (ax_ent [.ref c] 1) [] w (Ret fun u w' => u = none ∧ w'.length = w.length + 1 ∧ (∀ j, j ≠ c → j < w.length → w'[j]? = w[j]?) ∧ w'[c]? = some (7, [.ref w.length, .int (jI 0), .int (jI 0)]) ∧ w'[w.length]? = some (20, aI 32 (fun _ => 0)) ∧ ax_sz w' = ax_sz w + 32) := by
  have hlt : c < w.length := (List.getElem?_eq_some_iff.mp hw).1
  refine fi_step (pc' := 1) m_Wh_init rfl rfl ?_
  refine k_obj m_Wh_init rfl hfr hlo (by decide) ?_
  refine fi_step (pc' := 5) m_Wh_init rfl rfl ?_
  refine s_bipush (p := 7) m_Wh_init rfl rfl rfl ?_
  refine k_newa (p := 9) m_Wh_init rfl rfl rfl (by omega) (by omega) (fun w1 hE => ?_)
  obtain ⟨l1, a1, n1, z1⟩ := hE
  refine k_putf (p := 12) m_Wh_init rfl rfl rfl rfl rfl ((a1 c hlt).trans hw) (Nat.le_of_ble_eq_true rfl) (fun w2 hG => ?_)
  obtain ⟨l2, a2, n2, z2⟩ := hG
  refine p_ret m_Wh_init rfl rfl ?_
  refine ⟨rfl, by omega, fun j j1 j2 => (a2 j j1).trans (a1 j j2), n2, ?_, ?_⟩
  · rw [a2 _ (by omega), n1]
    show some (20, List.replicate 32 (Value.int 0)) = _
    rw [rep_aI]
  · rw [z2, z1]; rfl
theorem n_wh {i0 i2 b0 c0 d0 d1 d2 b2 : Nat} (hM : ax_prog[z]? = some M) (h0 : M.1[pc]? = some (some (.new i0, 3, 7, b0, c0))) (h1 : M.1[pc + 3]? = some (some (.dup, 1, d0, d1, d2))) (h2 : M.1[pc + 4]? = some (some (.invokespecial i2, 3, 4, 801, b2))) (hp : pc + 7 = p) (hfr : 2 ≤ fr) (hlo : 60 ≤ lo) (hwt : (st.map ax_wt).sum ≤ 7) (kk : ∀ w', w'.length = w.length + 2 → (∀ j, j < w.length → w'[j]? = w[j]?) → whA w' w.length → ax_sz w' = ax_sz w + 35 → fin xs fr lo z p ls (.ref w.length :: st) w' Q) : fin xs fr lo z pc ls st w Q := by
  subst hp
  refine k_new (p := pc + 3) hM h0 rfl rfl (fun w1 hE => ?_)
  obtain ⟨l1, a1, n1, z1⟩ := hE
  refine fi_step (pc' := pc + 4) hM h1 rfl ?_
  refine g_1 (p := pc + 7) hM h2 inv_p (by decide) m_Wh_init rfl rfl (by omega) (by omega) (by rw [List.map_cons, List.sum_cons]; show 1 + _ ≤ 8; omega) (Nat.le_of_ble_eq_true rfl) (by simp [ax_rcv, n1]) (i_wh (c := w.length) n1 (by omega) (by omega)) (fun v w2 hP => ?_)
  obtain ⟨rfl, l2, a2, b2, c2, z2⟩ := hP
  refine kk w2 (by omega) (fun j hj => (a2 j (by omega) (by omega)).trans (a1 j hj)) ⟨by rw [b2, l1], by rw [← l1]; exact c2⟩ ?_
  rw [z2, z1]; rfl
/-- a matrix -/
theorem i_ma (hw : w[c]? = some (2, [.null, .int 0, .int 0])) (hfr : 1 ≤ fr) (hlo : 30 ≤ lo) : fin xs fr lo 1 0 (ax_ent [.ref c] 1) [] w (Ret fun u w' => u = none ∧ w'.length = w.length + 1 ∧ (∀ j, j ≠ c → j < w.length → w'[j]? = w[j]?) ∧ w'[c]? = some (2, [.ref w.length, .int (jI 1), .int (jI 1)]) ∧ w'[w.length]? = some (21, aL 36 (fun _ => 0)) ∧ ax_sz w' = ax_sz w + 36) := by
  have hlt : c < w.length := (List.getElem?_eq_some_iff.mp hw).1
  refine fi_step (pc' := 1) m_Ma_init rfl rfl ?_
  refine k_obj m_Ma_init rfl hfr hlo (by decide) ?_
  refine fi_step (pc' := 5) m_Ma_init rfl rfl ?_
  refine s_bipush (p := 7) m_Ma_init rfl rfl rfl ?_
  refine k_newa (p := 9) m_Ma_init rfl rfl rfl (by omega) (by omega) (fun w1 hE => ?_)
  obtain ⟨l1, a1, n1, z1⟩ := hE
  refine k_putf (p := 12) m_Ma_init rfl rfl rfl rfl rfl ((a1 c hlt).trans hw) (Nat.le_of_ble_eq_true rfl) (fun w2 hG => ?_)
  obtain ⟨l2, a2, n2, z2⟩ := hG
  refine fi_step (pc' := 13) m_Ma_init rfl rfl ?_
  refine fi_step (pc' := 14) m_Ma_init rfl rfl ?_
  refine k_putf (p := 17) m_Ma_init rfl rfl rfl rfl rfl n2 (Nat.le_of_ble_eq_true rfl) (fun w3 hG => ?_)
  obtain ⟨l3, a3, n3, z3⟩ := hG
  refine fi_step (pc' := 18) m_Ma_init rfl rfl ?_
  refine fi_step (pc' := 19) m_Ma_init rfl rfl ?_
  refine k_putf (p := 22) m_Ma_init rfl rfl rfl rfl rfl n3 (Nat.le_of_ble_eq_true rfl) (fun w4 hG => ?_)
  obtain ⟨l4, a4, n4, z4⟩ := hG
  refine p_ret m_Ma_init rfl rfl ?_
  refine ⟨rfl, by omega, fun j j1 j2 => (a4 j j1).trans ((a3 j j1).trans ((a2 j j1).trans (a1 j j2))), n4, ?_, ?_⟩
  · rw [a4 _ (by omega), a3 _ (by omega), a2 _ (by omega), n1]
    show some (21, List.replicate 36 (Value.long 0)) = _
    rw [rep_aL]
  · rw [z4, z3, z2, z1]; rfl
theorem n_ma {i0 i2 b0 c0 d0 d1 d2 b2 : Nat} (hM : ax_prog[z]? = some M) (h0 : M.1[pc]? = some (some (.new i0, 3, 2, b0, c0))) (h1 : M.1[pc + 3]? = some (some (.dup, 1, d0, d1, d2))) (h2 : M.1[pc + 4]? = some (some (.invokespecial i2, 3, 1, 301, b2))) (hp : pc + 7 = p) (hfr : 2 ≤ fr) (hlo : 60 ≤ lo) (hwt : (st.map ax_wt).sum ≤ 7) (kk : ∀ w', w'.length = w.length + 2 → (∀ j, j < w.length → w'[j]? = w[j]?) → w'[w.length]? = some (2, [.ref (w.length + 1), .int (jI 1), .int (jI 1)]) → w'[w.length + 1]? = some (21, aL 36 (fun _ => 0)) → ax_sz w' = ax_sz w + 39 → fin xs fr lo z p ls (.ref w.length :: st) w' Q) : fin xs fr lo z pc ls st w Q := by
  subst hp
  refine k_new (p := pc + 3) hM h0 rfl rfl (fun w1 hE => ?_)
  obtain ⟨l1, a1, n1, z1⟩ := hE
  refine fi_step (pc' := pc + 4) hM h1 rfl ?_
  refine g_1 (p := pc + 7) hM h2 inv_p (by decide) m_Ma_init rfl rfl (by omega) (by omega) (by rw [List.map_cons, List.sum_cons]; show 1 + _ ≤ 8; omega) (Nat.le_of_ble_eq_true rfl) (by simp [ax_rcv, n1]) (i_ma (c := w.length) n1 (by omega) (by omega)) (fun v w2 hP => ?_)
  obtain ⟨rfl, l2, a2, b2, c2, z2⟩ := hP
  refine kk w2 (by omega) (fun j hj => (a2 j (by omega) (by omega)).trans (a1 j hj)) (by rw [b2, l1]) (by rw [← l1]; exact c2) ?_
  rw [z2, z1]; rfl
/-- what is printed -/
theorem i_pr (hw : w[c]? = some (4, [.null, .int 0])) (hfr : 1 ≤ fr) (hlo : 30 ≤ lo) : fin xs fr lo 2 0 (ax_ent [.ref c] 1) [] w (Ret fun u w' => u = none ∧ w'.length = w.length + 1 ∧ (∀ j, j ≠ c → j < w.length → w'[j]? = w[j]?) ∧ w'[c]? = some (4, [.ref w.length, .int (jI 0)]) ∧ w'[w.length]? = some (22, aI 256 (fun _ => 0)) ∧ ax_sz w' = ax_sz w + 256) := by
  have hlt : c < w.length := (List.getElem?_eq_some_iff.mp hw).1
  refine fi_step (pc' := 1) m_Pr_init rfl rfl ?_
  refine k_obj m_Pr_init rfl hfr hlo (by decide) ?_
  refine fi_step (pc' := 5) m_Pr_init rfl rfl ?_
  refine s_sipush (p := 8) m_Pr_init rfl rfl rfl ?_
  refine k_newa (p := 10) m_Pr_init rfl rfl rfl (by omega) (by omega) (fun w1 hE => ?_)
  obtain ⟨l1, a1, n1, z1⟩ := hE
  refine k_putf (p := 13) m_Pr_init rfl rfl rfl rfl rfl ((a1 c hlt).trans hw) (Nat.le_of_ble_eq_true rfl) (fun w2 hG => ?_)
  obtain ⟨l2, a2, n2, z2⟩ := hG
  refine p_ret m_Pr_init rfl rfl ?_
  refine ⟨rfl, by omega, fun j j1 j2 => (a2 j j1).trans (a1 j j2), n2, ?_, ?_⟩
  · rw [a2 _ (by omega), n1]
    show some (22, List.replicate 256 (Value.int 0)) = _
    rw [rep_aI]
  · rw [z2, z1]
    show _ + ax_cs (22, List.replicate 256 (Value.int 0)) = _
    rw [rep_aI]
    simp [ax_cs, aI_len]
/-- a new number, put into a field -/
theorem n_whf {i0 i2 b0 c0 d0 d1 d2 b2 ix C fld f3 : Nat} {ks : List Nat} {fs : List Value} (hM : ax_prog[z]? = some M) (h0 : M.1[pc]? = some (some (.new i0, 3, 7, b0, c0))) (h1 : M.1[pc + 3]? = some (some (.dup, 1, d0, d1, d2))) (h2 : M.1[pc + 4]? = some (some (.invokespecial i2, 3, 4, 801, b2))) (h3 : M.1[pc + 7]? = some (some (.putfield ix, 3, C, fld, f3))) (hp : pc + 10 = p) (hk1 : ax_kinds[C]? = some ks) (hk2 : ks[fld]? = some 2) (hw : w[c]? = some (C, fs)) (hk : fld < fs.length) (hfr : 2 ≤ fr) (hlo : 60 ≤ lo) (hwt : (st.map ax_wt).sum ≤ 6) (kk : ∀ w', w'.length = w.length + 2 → (∀ j, j ≠ c → j < w.length → w'[j]? = w[j]?) → w'[c]? = some (C, fs.set fld (.ref w.length)) → whA w' w.length → ax_sz w' = ax_sz w + 35 → fin xs fr lo z p ls st w' Q) : fin xs fr lo z pc ls (.ref c :: st) w Q := by
  have hlt : c < w.length := (List.getElem?_eq_some_iff.mp hw).1
  refine n_wh (p := pc + 7) hM h0 h1 h2 rfl hfr hlo (by rw [List.map_cons, List.sum_cons]; show 1 + _ ≤ 7; omega) (fun w1 l1 a1 q1 z1 => ?_)
  refine k_putf (p := p) hM h3 (by omega) hk1 hk2 rfl ((a1 c hlt).trans hw) hk (fun w2 hG => ?_)
  obtain ⟨l2, a2, n2, z2⟩ := hG
  exact kk w2 (by omega) (fun j j1 j2 => (a2 j j1).trans (a1 j j2)) n2 (whA_keep q1 (a2 _ (by omega)) (a2 _ (by omega))) (by omega)
/-- the number 1 at c -/
def oneA (w : ax_W) (c : Nat) : Prop := ∃ (f : Int → Int) (n b : Int), w[c]? = some (7, [.ref (c + 1), .int (jI n), .int (jI b)]) ∧ w[c + 1]? = some (20, aI 32 f) ∧ Wv f n b 1 ∧ n ≤ 32
theorem oneA_keep {w w' : ax_W} {c : Nat} (h : oneA w c) (h1 : w'[c]? = w[c]?) (h2 : w'[c + 1]? = w[c + 1]?) : oneA w' c := by
  obtain ⟨f, n, b, e1, e2, e3⟩ := h
  exact ⟨f, n, b, h1.trans e1, h2.trans e2, e3⟩
theorem i_one (h : whA w c) (hfr : 3 ≤ fr) (hlo : 190 ≤ lo) : fin xs fr lo 5 0 (ax_ent [.ref c, .long (jL 1)] 6) [] w (Ret fun u w' => u = none ∧ w'.length = w.length ∧ (∀ j, j ≠ c → j ≠ c + 1 → w'[j]? = w[j]?) ∧ oneA w' c ∧ ax_sz w' = ax_sz w) := by
  refine fi_mono (h_becomeJ (x := 1) (TW_refl h.1 h.2) (by omega) (by omega) (by omega) (by omega) hfr hlo) (fun o w' ⟨u, e, hu, f, n, b, hT, hv, hn⟩ => ⟨u, e, hu, hT.1, hT.2.2.1, ⟨f, n, b, hT.2.2.2.1, hT.2.2.2.2, hv, hn⟩, hT.2.1⟩)
theorem i_di (hw : w[c]? = some (1, [.null, .null, .null, .null, .null])) (hc : w.length = c + 1) (hfr : 4 ≤ fr) (hlo : 220 ≤ lo) : fin xs fr lo 3 0 (ax_ent [.ref c] 1) [] w (Ret fun u w' => u = none ∧ w'.length = c + 11 ∧ (∀ j, j < c → w'[j]? = w[j]?) ∧ w'[c]? = some (1, [.ref (c + 1), .ref (c + 3), .ref (c + 5), .ref (c + 7), .ref (c + 9)]) ∧ (whA w' (c + 1) ∧ whA w' (c + 3) ∧ whA w' (c + 5) ∧ whA w' (c + 7) ∧ oneA w' (c + 9)) ∧ ax_sz w' = ax_sz w + 175) := by
  refine fi_step (pc' := 1) m_Di_init rfl rfl ?_
  refine k_obj m_Di_init rfl (by omega) (by omega) (by decide) ?_
  refine fi_step (pc' := 5) m_Di_init rfl rfl ?_
  refine n_whf (p := 15) m_Di_init rfl rfl rfl rfl rfl rfl rfl hw (Nat.le_of_ble_eq_true rfl) (by omega) (by omega) (by decide) (fun w0 l0 a0 n0 q0 z0 => ?_)
  refine fi_step (pc' := 16) m_Di_init rfl rfl ?_
  refine n_whf (p := 26) m_Di_init rfl rfl rfl rfl rfl rfl rfl n0 (Nat.le_of_ble_eq_true rfl) (by omega) (by omega) (by decide) (fun w1 l1 a1 n1 q1 z1 => ?_)
  have q0 := whA_keep q0 (a1 _ (by omega) (by omega)) (a1 _ (by omega) (by omega))
  refine fi_step (pc' := 27) m_Di_init rfl rfl ?_
  refine n_whf (p := 37) m_Di_init rfl rfl rfl rfl rfl rfl rfl n1 (Nat.le_of_ble_eq_true rfl) (by omega) (by omega) (by decide) (fun w2 l2 a2 n2 q2 z2 => ?_)
  have q0 := whA_keep q0 (a2 _ (by omega) (by omega)) (a2 _ (by omega) (by omega))
  have q1 := whA_keep q1 (a2 _ (by omega) (by omega)) (a2 _ (by omega) (by omega))
  refine fi_step (pc' := 38) m_Di_init rfl rfl ?_
  refine n_whf (p := 48) m_Di_init rfl rfl rfl rfl rfl rfl rfl n2 (Nat.le_of_ble_eq_true rfl) (by omega) (by omega) (by decide) (fun w3 l3 a3 n3 q3 z3 => ?_)
  have q0 := whA_keep q0 (a3 _ (by omega) (by omega)) (a3 _ (by omega) (by omega))
  have q1 := whA_keep q1 (a3 _ (by omega) (by omega)) (a3 _ (by omega) (by omega))
  have q2 := whA_keep q2 (a3 _ (by omega) (by omega)) (a3 _ (by omega) (by omega))
  refine fi_step (pc' := 49) m_Di_init rfl rfl ?_
  refine n_whf (p := 59) m_Di_init rfl rfl rfl rfl rfl rfl rfl n3 (Nat.le_of_ble_eq_true rfl) (by omega) (by omega) (by decide) (fun w4 l4 a4 n4 q4 z4 => ?_)
  have q0 := whA_keep q0 (a4 _ (by omega) (by omega)) (a4 _ (by omega) (by omega))
  have q1 := whA_keep q1 (a4 _ (by omega) (by omega)) (a4 _ (by omega) (by omega))
  have q2 := whA_keep q2 (a4 _ (by omega) (by omega)) (a4 _ (by omega) (by omega))
  have q3 := whA_keep q3 (a4 _ (by omega) (by omega)) (a4 _ (by omega) (by omega))
  have e0 : w.length = c + 1 := hc
  have e1 : w0.length = c + 3 := by omega
  have e2 : w1.length = c + 5 := by omega
  have e3 : w2.length = c + 7 := by omega
  have e4 : w3.length = c + 9 := by omega
  rw [e0] at q0
  rw [e1] at q1
  rw [e2] at q2
  rw [e3] at q3
  rw [e4] at q4
  rw [e0, e1, e2, e3, e4] at n4
  refine fi_step (pc' := 60) m_Di_init rfl rfl ?_
  refine k_get (p := 63) m_Di_init rfl rfl n4 rfl ?_
  refine s_lconst (p := 64) (v := 1) m_Di_init rfl rfl rfl ?_
  refine g_2 (p := 67) m_Di_init rfl inv_v (by decide) m_Wh_becomeJ rfl rfl (by omega) (by omega) (Nat.le_of_ble_eq_true rfl) (Nat.le_of_ble_eq_true rfl) (by simp [ax_rcv, q4.1]) (i_one (c := c + 9) q4 (by omega) (by omega)) (fun v w hP => ?_)
  obtain ⟨rfl, l5, a5, o5, z5⟩ := hP
  refine p_ret m_Di_init rfl rfl ?_
  refine ⟨rfl, by omega, fun j hj => ?_, (a5 _ (by omega) (by omega)).trans n4, ⟨whA_keep q0 (a5 _ (by omega) (by omega)) (a5 _ (by omega) (by omega)), whA_keep q1 (a5 _ (by omega) (by omega)) (a5 _ (by omega) (by omega)), whA_keep q2 (a5 _ (by omega) (by omega)) (a5 _ (by omega) (by omega)), whA_keep q3 (a5 _ (by omega) (by omega)) (a5 _ (by omega) (by omega)), o5⟩, by omega⟩
  rw [a5 j (by omega) (by omega), a4 j (by omega) (by omega), a3 j (by omega) (by omega), a2 j (by omega) (by omega), a1 j (by omega) (by omega), a0 j (by omega) (by omega)]
end CT
