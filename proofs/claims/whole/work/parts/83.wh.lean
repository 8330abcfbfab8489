/-! THE CLASS'S NUMBERS: a Whole at cell c, its digits at cell d. w is w0 but for these two cells -/
def TW (w0 w : ax_W) (c d cap : Nat) (f : Int → Int) (n b : Int) : Prop := w.length = w0.length ∧ ax_sz w = ax_sz w0 ∧ (∀ j, j ≠ c → j ≠ d → w[j]? = w0[j]?) ∧ w[c]? = some (7, [.ref d, .int (jI n), .int (jI b)]) ∧ w[d]? = some (20, aI cap f)
/-- another Whole of w0, at a, its digits at e -/
def OW (w0 : ax_W) (c d a e cp : Nat) (g : Int → Int) (m q : Int) : Prop := (a ≠ c ∧ a ≠ d ∧ e ≠ c ∧ e ≠ d) ∧ w0[a]? = some (7, [.ref e, .int (jI m), .int (jI q)]) ∧ w0[e]? = some (20, aI cp g)
theorem sz_set {w : ax_W} {i : Nat} {q q' : Nat × List Value} (h : w[i]? = some q) (hc : ax_cs q' = ax_cs q) : ax_sz (w.set i q') = ax_sz w := by
  induction w generalizing i with
  | nil => simp at h
  | cons x w ih =>
    cases i with
    | zero =>
      simp only [List.getElem?_cons_zero, Option.some.injEq] at h
      subst h
      simp [ax_sz, hc]
    | succ i =>
      simp only [List.getElem?_cons_succ] at h
      have := ih h
      unfold ax_sz at this ⊢
      simp only [List.set_cons_succ, List.map_cons, List.sum_cons, this]
theorem cs_arr (t : Nat) (ht : 20 ≤ t) (vs vs' : List Value) (h : vs'.length = vs.length) : ax_cs (t, vs') = ax_cs (t, vs) := by
  simp [ax_cs, h]
theorem TW_ne {w0 w : ax_W} {c d cap : Nat} {f : Int → Int} {n b : Int} (h : TW w0 w c d cap f n b) : c ≠ d := by
  intro e
  have h1 := h.2.2.2.1
  have h2 := h.2.2.2.2
  rw [e, h2] at h1
  simp at h1
theorem TW_setc {w0 w : ax_W} {c d cap : Nat} {f : Int → Int} {n b : Int} (h : TW w0 w c d cap f n b) (n' b' : Int) : TW w0 (w.set c (7, [.ref d, .int (jI n'), .int (jI b')])) c d cap f n' b' := by
  have hne := TW_ne h
  obtain ⟨h1, h2, h3, h4, h5⟩ := h
  have hl : c < w.length := (List.getElem?_eq_some_iff.mp h4).1
  refine ⟨by simp [h1], (sz_set (q' := (7, [.ref d, .int (jI n'), .int (jI b')])) h4 rfl).trans h2, fun j hc hd => ?_, by simp [hl], ?_⟩
  · rw [List.getElem?_set_ne (fun e => hc e.symm)]; exact h3 j hc hd
  · rw [List.getElem?_set_ne hne]; exact h5
theorem TW_setd {w0 w : ax_W} {c d cap : Nat} {f : Int → Int} {n b : Int} (h : TW w0 w c d cap f n b) (f' : Int → Int) : TW w0 (w.set d (20, aI cap f')) c d cap f' n b := by
  have hne := TW_ne h
  obtain ⟨h1, h2, h3, h4, h5⟩ := h
  have hl : d < w.length := (List.getElem?_eq_some_iff.mp h5).1
  refine ⟨by simp [h1], by rw [sz_set h5 (cs_arr 20 (by decide) _ _ (by rw [aI_len, aI_len]))]; exact h2, fun j hc hd => ?_, ?_, by simp [hl]⟩
  · rw [List.getElem?_set_ne (fun e => hd e.symm)]; exact h3 j hc hd
  · rw [List.getElem?_set_ne (fun e => hne e.symm)]; exact h4
theorem TW_refl {w : ax_W} {c d cap : Nat} {f : Int → Int} {n b : Int} (h1 : w[c]? = some (7, [.ref d, .int (jI n), .int (jI b)])) (h2 : w[d]? = some (20, aI cap f)) : TW w w c d cap f n b := ⟨rfl, rfl, fun _ _ _ => rfl, h1, h2⟩
theorem TW_ext {w0 w : ax_W} {c d cap : Nat} {f g : Int → Int} {n b : Int} (h : TW w0 w c d cap f n b) (e : ∀ x, 0 ≤ x → x < cap → f x = g x) : TW w0 w c d cap g n b := by
  obtain ⟨h1, h2, h3, h4, h5⟩ := h
  exact ⟨h1, h2, h3, h4, by rw [h5, aI_ext e]⟩
theorem OW_a {w0 w : ax_W} {c d cap a e cp : Nat} {f g : Int → Int} {n b m q : Int} (h : TW w0 w c d cap f n b) (ho : OW w0 c d a e cp g m q) : w[a]? = some (7, [.ref e, .int (jI m), .int (jI q)]) := by rw [h.2.2.1 a ho.1.1 ho.1.2.1]; exact ho.2.1
theorem OW_e {w0 w : ax_W} {c d cap a e cp : Nat} {f g : Int → Int} {n b m q : Int} (h : TW w0 w c d cap f n b) (ho : OW w0 c d a e cp g m q) : w[e]? = some (20, aI cp g) := by rw [h.2.2.1 e ho.1.2.2.1 ho.1.2.2.2]; exact ho.2.2
theorem TW_rcv {w0 w : ax_W} {c d cap : Nat} {f : Int → Int} {n b : Int} (h : TW w0 w c d cap f n b) (as : List Value) : ax_rcv 8 (.ref c :: as) w = true := by
  simp only [ax_rcv, h.2.2.2.1, beq_self_eq_true]
section WHR
variable {xs : List Int32} {fr lo z pc p l u1 u2 u3 idx : Nat} {ls : List (Option Value)} {st : List Value} {w0 w : ax_W} {Q : Outcome → ax_W → Prop} {M : ax_M} {x : Int} {c d cap a e cp : Nat} {f g : Int → Int} {n b m q : Int}
theorem t_get {k : Nat} {v : Value} (hM : ax_prog[z]? = some M) (he : M.1[pc]? = some (some (.getfield idx, l, 7, k, u3))) (hp : pc + l = p) (hw : TW w0 w c d cap f n b) (hv : ([.ref d, .int (jI n), .int (jI b)] : List Value)[k]? = some v) (kk : fin xs fr lo z p ls (v :: st) w Q) : fin xs fr lo z pc ls (.ref c :: st) w Q := by
  subst hp; exact fi_get hM he hw.2.2.2.1 hv kk
theorem o_get {k : Nat} {v : Value} (hM : ax_prog[z]? = some M) (he : M.1[pc]? = some (some (.getfield idx, l, 7, k, u3))) (hp : pc + l = p) (hw : TW w0 w c d cap f n b) (ho : OW w0 c d a e cp g m q) (hv : ([.ref e, .int (jI m), .int (jI q)] : List Value)[k]? = some v) (kk : fin xs fr lo z p ls (v :: st) w Q) : fin xs fr lo z pc ls (.ref a :: st) w Q := by
  subst hp; exact fi_get hM he (OW_a hw ho) hv kk
theorem t_put1 {v : Int} (hM : ax_prog[z]? = some M) (he : M.1[pc]? = some (some (.putfield idx, l, 7, 1, u3))) (hp : pc + l = p) (hw : TW w0 w c d cap f n b) (kk : ∀ w1, TW w0 w1 c d cap f v b → fin xs fr lo z p ls st w1 Q) : fin xs fr lo z pc ls (.int (jI v) :: .ref c :: st) w Q := by
  subst hp
  exact fi_put hM he (ks := [2, 0, 1]) rfl rfl rfl hw.2.2.2.1 (by simp) (kk _ (TW_setc hw v b))
theorem t_put2 {v : Int} (hM : ax_prog[z]? = some M) (he : M.1[pc]? = some (some (.putfield idx, l, 7, 2, u3))) (hp : pc + l = p) (hw : TW w0 w c d cap f n b) (hv : v = 0 ∨ v = 1) (kk : ∀ w1, TW w0 w1 c d cap f n v → fin xs fr lo z p ls st w1 Q) : fin xs fr lo z pc ls (.int (jI v) :: .ref c :: st) w Q := by
  subst hp
  exact fi_put hM he (ks := [2, 0, 1]) (fk := 1) rfl rfl (by rcases hv with rfl | rfl <;> rfl) hw.2.2.2.1 (by simp) (kk _ (TW_setc hw n v))
theorem t_len (hM : ax_prog[z]? = some M) (he : M.1[pc]? = some (some (.arraylength, l, u1, u2, u3))) (hp : pc + l = p) (hw : TW w0 w c d cap f n b) (kk : fin xs fr lo z p ls (.int (jI cap) :: st) w Q) : fin xs fr lo z pc ls (.ref d :: st) w Q := by
  subst hp
  refine fi_alen hM he hw.2.2.2.2 (by decide) ?_
  rw [aI_len, show (cap : Nat).toInt32 = jI cap from Int32.ofInt_eq_ofNat.symm]; exact kk
theorem t_ld (hM : ax_prog[z]? = some M) (he : M.1[pc]? = some (some (.iaload, l, u1, u2, u3))) (hp : pc + l = p) (hw : TW w0 w c d cap f n b) (hn : cap < 100000) (h0 : 0 ≤ x) (h1 : x < cap) (kk : fin xs fr lo z p ls (.int (jI (f x)) :: st) w Q) : fin xs fr lo z pc ls (.int (jI x) :: .ref d :: st) w Q := by
  subst hp
  exact fi_iald hM he hw.2.2.2.2 (jI_nn h0 (by omega)) (by rw [jI_nat h0 (by omega)]; exact aI_get h0 h1) kk
theorem o_ld (hM : ax_prog[z]? = some M) (he : M.1[pc]? = some (some (.iaload, l, u1, u2, u3))) (hp : pc + l = p) (hw : TW w0 w c d cap f n b) (ho : OW w0 c d a e cp g m q) (hn : cp < 100000) (h0 : 0 ≤ x) (h1 : x < cp) (kk : fin xs fr lo z p ls (.int (jI (g x)) :: st) w Q) : fin xs fr lo z pc ls (.int (jI x) :: .ref e :: st) w Q := by
  subst hp
  exact fi_iald hM he (OW_e hw ho) (jI_nn h0 (by omega)) (by rw [jI_nat h0 (by omega)]; exact aI_get h0 h1) kk
theorem t_st {v : Int} (hM : ax_prog[z]? = some M) (he : M.1[pc]? = some (some (.iastore, l, u1, u2, u3))) (hp : pc + l = p) (hw : TW w0 w c d cap f n b) (hn : cap < 100000) (h0 : 0 ≤ x) (h1 : x < cap) (kk : ∀ w1, TW w0 w1 c d cap (up1 f x v) n b → fin xs fr lo z p ls st w1 Q) : fin xs fr lo z pc ls (.int (jI v) :: .int (jI x) :: .ref d :: st) w Q := by
  subst hp
  refine fi_iast hM he hw.2.2.2.2 (jI_nn h0 (by omega)) (by rw [jI_nat h0 (by omega), aI_len]; omega) ?_
  rw [jI_nat h0 (by omega), aI_set h0]
  exact kk _ (TW_setd hw _)
end WHR
/-! clear, trim, signs -/
section WH1
variable {xs : List Int32} {fr lo : Nat} {w0 w : ax_W} {Q : Outcome → ax_W → Prop} {c d cap : Nat} {f : Int → Int} {n b : Int}
theorem h_clear (hw : TW w0 w c d cap f n b) : fin xs fr lo 6 0 (ax_ent [.ref c] 1) [] w (Ret fun u w' => u = none ∧ TW w0 w' c d cap f 0 0) := by
  refine fi_step (pc' := 1) m_Wh_clear rfl rfl ?_
  refine fi_step (pc' := 2) m_Wh_clear rfl rfl ?_
  refine t_put1 (p := 5) m_Wh_clear rfl rfl (by assumption) (fun w hw => ?_)
  refine fi_step (pc' := 6) m_Wh_clear rfl rfl ?_
  refine fi_step (pc' := 7) m_Wh_clear rfl rfl ?_
  refine t_put2 (p := 10) m_Wh_clear rfl rfl (by assumption) (by first | exact Or.inl rfl | exact Or.inr rfl | assumption | omega) (fun w hw => ?_)
  refine p_ret m_Wh_clear rfl rfl ?_
  exact ⟨rfl, hw⟩
theorem h_isZero (hw : TW w0 w c d cap f n b) (n0 : 0 ≤ n) (n1 : n < 100000) : fin xs fr lo 54 0 (ax_ent [.ref c] 1) [] w (Same (.int (jI (if n = 0 then 1 else 0))) w) := by
  by_cases h : n = 0
  · rw [if_pos h]
    refine fi_step (pc' := 1) m_Wh_isZero rfl rfl ?_
    first | refine t_get (p := 4) m_Wh_isZero rfl rfl (by assumption) rfl ?_ | refine o_get (p := 4) m_Wh_isZero rfl rfl (by assumption) (by assumption) rfl ?_
    refine s_if_ne (p := 7) m_Wh_isZero rfl rfl (by omega) (by omega) (fun hbr => False.elim (by omega)) (fun hbr => ?_)
    refine fi_step (pc' := 8) m_Wh_isZero rfl rfl ?_
    refine fi_step (pc' := 12) m_Wh_isZero rfl rfl ?_
    exact s_retb m_Wh_isZero rfl rfl (by omega) (by first | exact Or.inl rfl | exact Or.inr rfl | omega)
  · rw [if_neg h]
    refine fi_step (pc' := 1) m_Wh_isZero rfl rfl ?_
    first | refine t_get (p := 4) m_Wh_isZero rfl rfl (by assumption) rfl ?_ | refine o_get (p := 4) m_Wh_isZero rfl rfl (by assumption) (by assumption) rfl ?_
    refine s_if_ne (p := 7) m_Wh_isZero rfl rfl (by omega) (by omega) (fun hbr => ?_) (fun hbr => False.elim (by omega))
    refine fi_step (pc' := 12) m_Wh_isZero rfl rfl ?_
    exact s_retb m_Wh_isZero rfl rfl (by omega) (by first | exact Or.inl rfl | exact Or.inr rfl | omega)
theorem h_fits (hw : TW w0 w c d cap f n b) (n0 : 0 ≤ n) (n1 : n < 100000) : fin xs fr lo 39 0 (ax_ent [.ref c] 1) [] w (Same (.int (jI (if n ≤ 2 then 1 else 0))) w) := by
  by_cases h : n ≤ 2
  · rw [if_pos h]
    refine fi_step (pc' := 1) m_Wh_fits rfl rfl ?_
    first | refine t_get (p := 4) m_Wh_fits rfl rfl (by assumption) rfl ?_ | refine o_get (p := 4) m_Wh_fits rfl rfl (by assumption) (by assumption) rfl ?_
    refine fi_step (pc' := 5) m_Wh_fits rfl rfl ?_
    refine s_ic_gt (p := 8) m_Wh_fits rfl rfl (by omega) (by omega) (by omega) (by omega) (fun hbr => False.elim (by omega)) (fun hbr => ?_)
    refine fi_step (pc' := 9) m_Wh_fits rfl rfl ?_
    refine fi_step (pc' := 13) m_Wh_fits rfl rfl ?_
    exact s_retb m_Wh_fits rfl rfl (by omega) (by first | exact Or.inl rfl | exact Or.inr rfl | omega)
  · rw [if_neg h]
    refine fi_step (pc' := 1) m_Wh_fits rfl rfl ?_
    first | refine t_get (p := 4) m_Wh_fits rfl rfl (by assumption) rfl ?_ | refine o_get (p := 4) m_Wh_fits rfl rfl (by assumption) (by assumption) rfl ?_
    refine fi_step (pc' := 5) m_Wh_fits rfl rfl ?_
    refine s_ic_gt (p := 8) m_Wh_fits rfl rfl (by omega) (by omega) (by omega) (by omega) (fun hbr => ?_) (fun hbr => False.elim (by omega))
    refine fi_step (pc' := 13) m_Wh_fits rfl rfl ?_
    exact s_retb m_Wh_fits rfl rfl (by omega) (by first | exact Or.inl rfl | exact Or.inr rfl | omega)
end WH1
