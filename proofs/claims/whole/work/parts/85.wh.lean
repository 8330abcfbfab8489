/-! THE CLASS'S NUMBERS: new arrays, copies; widen, become -/
theorem aI_zero (N : Nat) : List.replicate N (Value.int 0) = aI N (fun _ => 0) := by
  unfold aI
  apply List.ext_getElem?
  intro i
  by_cases h : i < N
  · simp [h]; rfl
  · simp [h]
theorem aI_cpy {k cp N : Nat} {g h : Int → Int} (h1 : k ≤ cp) (h2 : k ≤ N) : (aI N h).take 0 ++ ((aI cp g).drop 0).take k ++ (aI N h).drop (0 + k) = aI N (fun i => if i < k then g i else h i) := by
  rw [List.take_zero, List.nil_append, List.drop_zero, Nat.zero_add]
  apply List.ext_getElem?
  intro i
  by_cases hi : i < k
  · rw [List.getElem?_append_left (by rw [List.length_take, aI_len]; omega), List.getElem?_take_of_lt hi]
    unfold aI
    rw [List.getElem?_map, List.getElem?_map, List.getElem?_range (by omega), List.getElem?_range (by omega)]
    simp only [Option.map_some]
    rw [if_pos (by omega)]
  · rw [List.getElem?_append_right (by rw [List.length_take, aI_len]; omega), List.length_take, aI_len, Nat.min_eq_left h1, List.getElem?_drop, show k + (i - k) = i by omega]
    unfold aI
    rw [List.getElem?_map, List.getElem?_map]
    by_cases hN : i < N
    · rw [List.getElem?_range hN]
      simp only [Option.map_some]
      rw [if_neg (by omega)]
    · rw [List.getElem?_eq_none (by rw [List.length_range]; omega)]; rfl
theorem aI_is (cp k : Nat) (g : Int → Int) : (((aI cp g).drop 0).take k).all (ax_is 20) = true := by
  rw [List.all_eq_true]
  intro v hv
  have h1 := List.mem_of_mem_take hv
  have h2 := List.mem_of_mem_drop h1
  unfold aI at h2
  obtain ⟨j, _, rfl⟩ := List.mem_map.mp h2
  rfl
section NEW
variable {xs : List Int32} {fr lo z pc p l u1 u2 u3 idx : Nat} {ls : List (Option Value)} {st : List Value} {w : ax_W} {Q : Outcome → ax_W → Prop} {M : ax_M}
theorem t_newa {N : Nat} (hM : ax_prog[z]? = some M) (he : M.1[pc]? = some (some (.newarray .int, l, u1, u2, u3))) (hp : pc + l = p) (hN : N ≤ 100000) (kk : fin xs fr lo z p ls (.ref w.length :: st) (w ++ [(20, aI N (fun _ => 0))]) Q) : fin xs fr lo z pc ls (.int (jI N) :: st) w Q := by
  subst hp
  have h1 : ¬ (jI N < 0) := jI_nn (by omega) (by omega)
  have h2 : ¬ (100000 < jI N) := by
    rw [show (100000 : Int32) = jI 100000 from rfl, jI_lt (by omega) (by omega) (by omega) (by omega)]; omega
  refine fi_hp hM he rfl rfl rfl (st' := .ref w.length :: st) (w1 := w ++ [(20, aI N (fun _ => 0))]) ?_ kk
  simp only [ax_hp, ax_at, ax_newa, h1, h2]
  rw [jI_nat (by omega) (by omega), Int.toNat_natCast, aI_zero]
  simp
theorem t_cpy {a e cp N k : Nat} {g h : Int → Int} {en : ax_E} (hM : ax_prog[z]? = some M) (he : M.1[pc]? = some (some en)) (hi : ax_isinv en.1) (hz : en.2.2.1 = 1002) (hp : pc + 3 = p) (hfr : 1 ≤ fr) (hlo : 100 ≤ lo) (hwt : ((.int (jI k) :: .int (jI 0) :: .ref e :: .int (jI 0) :: .ref a :: st).map ax_wt).sum ≤ 18) (ha : w[a]? = some (20, aI cp g)) (hb : w[e]? = some (20, aI N h)) (h1 : k ≤ cp) (h2 : k ≤ N) (hk : k < 100000) (kk : fin xs fr lo z p ls st (w.set e (20, aI N (fun i => if i < k then g i else h i))) Q) : fin xs fr lo z pc ls (.int (jI k) :: .int (jI 0) :: .ref e :: .int (jI 0) :: .ref a :: st) w Q := by
  subst hp
  refine fi_spc hM he hi (by omega) (st' := st) (w1 := w.set e (20, aI N (fun i => if i < k then g i else h i))) ?_ kk
  rw [hz]
  have n1 : ¬ (jI k < 0) := jI_nn (by omega) (by omega)
  have n0 : ¬ (jI 0 < 0) := jI_nn (by omega) (by omega)
  have e1 : (jI k).toNatClampNeg = k := by rw [jI_nat (by omega) (by omega), Int.toNat_natCast]
  have e0 : (jI 0).toNatClampNeg = 0 := by rw [jI_nat (by omega) (by omega)]; rfl
  simp only [ax_spc]
  rw [if_neg (by omega), if_neg (by omega), if_neg (by omega)]
  simp only [ax_cpy, ha, hb, e1, e0, n1, n0, aI_len, aI_is]
  rw [aI_cpy h1 h2]
  simp [h1, h2]
end NEW
section WH3
variable {xs : List Int32} {fr lo : Nat} {w0 w : ax_W} {Q : Outcome → ax_W → Prop} {c d cap : Nat} {f : Int → Int} {n b : Int}
theorem h_min {a t : Int} (a0 : -2147483648 ≤ a) (a1 : a < 2147483648) (t0 : -2147483648 ≤ t) (t1 : t < 2147483648) : fin xs fr lo 9 0 (ax_ent [.int (jI a), .int (jI t)] 2) [] w (Same (.int (jI (if a ≤ t then a else t))) w) := by
  by_cases h : a ≤ t
  · rw [if_pos h]
    refine fi_step (pc' := 1) m_Mt_min rfl rfl ?_
    refine fi_step (pc' := 2) m_Mt_min rfl rfl ?_
    refine s_ic_gt (p := 5) m_Mt_min rfl rfl (by omega) (by omega) (by omega) (by omega) (fun hbr => False.elim (by omega)) (fun hbr => ?_)
    refine fi_step (pc' := 6) m_Mt_min rfl rfl ?_
    refine fi_step (pc' := 10) m_Mt_min rfl rfl ?_
    exact s_reti m_Mt_min rfl rfl (by omega)
  · rw [if_neg h]
    refine fi_step (pc' := 1) m_Mt_min rfl rfl ?_
    refine fi_step (pc' := 2) m_Mt_min rfl rfl ?_
    refine s_ic_gt (p := 5) m_Mt_min rfl rfl (by omega) (by omega) (by omega) (by omega) (fun hbr => ?_) (fun hbr => False.elim (by omega))
    refine fi_step (pc' := 10) m_Mt_min rfl rfl ?_
    exact s_reti m_Mt_min rfl rfl (by omega)
theorem h_max {a t : Int} (a0 : -2147483648 ≤ a) (a1 : a < 2147483648) (t0 : -2147483648 ≤ t) (t1 : t < 2147483648) : fin xs fr lo 36 0 (ax_ent [.int (jI a), .int (jI t)] 2) [] w (Same (.int (jI (if t ≤ a then a else t))) w) := by
  by_cases h : t ≤ a
  · rw [if_pos h]
    refine fi_step (pc' := 1) m_Mt_max rfl rfl ?_
    refine fi_step (pc' := 2) m_Mt_max rfl rfl ?_
    refine s_ic_lt (p := 5) m_Mt_max rfl rfl (by omega) (by omega) (by omega) (by omega) (fun hbr => False.elim (by omega)) (fun hbr => ?_)
    refine fi_step (pc' := 6) m_Mt_max rfl rfl ?_
    refine fi_step (pc' := 10) m_Mt_max rfl rfl ?_
    exact s_reti m_Mt_max rfl rfl (by omega)
  · rw [if_neg h]
    refine fi_step (pc' := 1) m_Mt_max rfl rfl ?_
    refine fi_step (pc' := 2) m_Mt_max rfl rfl ?_
    refine s_ic_lt (p := 5) m_Mt_max rfl rfl (by omega) (by omega) (by omega) (by omega) (fun hbr => ?_) (fun hbr => False.elim (by omega))
    refine fi_step (pc' := 10) m_Mt_max rfl rfl ?_
    exact s_reti m_Mt_max rfl rfl (by omega)
theorem h_copyOf {N : Nat} (hd : w[d]? = some (20, aI cap f)) (hc : cap < 90000) (h1 : cap < N) (hN : N < 90000) (hfr : 1 ≤ fr) (hlo : 100 ≤ lo) :
    fin xs fr lo 8 0 (ax_ent [.ref d, .int (jI N)] 3) [] w (Ret fun u w' => u = some (.ref w.length) ∧ w' = w ++ [(20, aI N (fun i => if i < cap then f i else 0))]) := by
  have hl : d < w.length := (List.getElem?_eq_some_iff.mp hd).1
  refine fi_step (pc' := 1) m_Ar_copyOf rfl rfl ?_
  refine fi_step (pc' := 2) m_Ar_copyOf rfl rfl ?_
  refine fi_alen m_Ar_copyOf rfl hd (by decide) ?_
  rw [aI_len, show (cap : Nat).toInt32 = jI cap from Int32.ofInt_eq_ofNat.symm]
  refine s_ic_ne (p := 6) m_Ar_copyOf rfl rfl (by omega) (by omega) (by omega) (by omega) (fun hbr => ?_) (fun hbr => False.elim (by omega))
  refine fi_step (pc' := 15) m_Ar_copyOf rfl rfl ?_
  refine t_newa (p := 17) m_Ar_copyOf rfl rfl (by omega) ?_
  have hd' : (w ++ [(20, aI N (fun _ => 0))])[d]? = some (20, aI cap f) := by rw [List.getElem?_append_left hl]; exact hd
  have hn' : (w ++ [(20, aI N (fun _ => 0))])[w.length]? = some (20, aI N (fun _ => 0)) := by simp
  refine fi_step (pc' := 18) m_Ar_copyOf rfl rfl ?_
  refine fi_step (pc' := 19) m_Ar_copyOf rfl rfl ?_
  refine fi_step (pc' := 20) m_Ar_copyOf rfl rfl ?_
  refine fi_step (pc' := 21) m_Ar_copyOf rfl rfl ?_
  refine fi_step (pc' := 22) m_Ar_copyOf rfl rfl ?_
  refine fi_step (pc' := 23) m_Ar_copyOf rfl rfl ?_
  refine fi_alen m_Ar_copyOf rfl hd' (by decide) ?_
  rw [aI_len, show (cap : Nat).toInt32 = jI cap from Int32.ofInt_eq_ofNat.symm]
  refine fi_step (pc' := 25) m_Ar_copyOf rfl rfl ?_
  refine c_2 (p := 28) m_Ar_copyOf rfl inv_s (by decide) m_Mt_min rfl rfl (by omega) (by omega) (Nat.le_of_ble_eq_true rfl) (Nat.le_of_ble_eq_true rfl) rfl (h_min (by omega) (by omega) (by omega) (by omega)) ?_
  rw [if_pos (by omega)]
  refine t_cpy (p := 31) (k := cap) m_Ar_copyOf rfl inv_s rfl rfl hfr hlo (Nat.le_of_ble_eq_true rfl) hd' hn' (by omega) (by omega) (by omega) ?_
  refine fi_step (pc' := 32) m_Ar_copyOf rfl rfl ?_
  refine p_reta m_Ar_copyOf rfl rfl ?_
  refine ⟨rfl, ?_⟩
  rw [List.set_append_right _ _ (Nat.le_refl _), Nat.sub_self]
  rfl
theorem h_widen {t : Nat} {m : Nat} (hw : TW w0 w c d cap f m b) (hm : m ≤ cap) (hc : cap < 50000) (ht : t < 50000) (hfr : 2 ≤ fr) (hlo : 160 ≤ lo) :
    fin xs fr lo 7 0 (ax_ent [.ref c, .int (jI t)] 2) [] w (Ret fun u w' => u = none ∧ ∃ w0' d' cap' f', TW w0' w' c d' cap' f' m b ∧ XT w0 w0' c d d' cap cap' ∧ t ≤ cap' ∧ (cap' = cap ∨ cap' = t + 32) ∧ (∀ i : Nat, i < m → f' i = f i) ∧ ∀ i : Nat, m ≤ i → i < t → f' i = 0) := by
  have tail : ∀ (w0' w : ax_W) (d' cap' : Nat) (f1 : Int → Int), TW w0' w c d' cap' f1 m b → XT w0 w0' c d d' cap cap' → t ≤ cap' → (cap' = cap ∨ cap' = t + 32) → (∀ i : Nat, i < m → f1 i = f i) → fin xs fr lo 7 24 [some (.ref c), some (.int (jI t))] [] w (Ret fun u w' => u = none ∧ ∃ w0' d' cap' f', TW w0' w' c d' cap' f' m b ∧ XT w0 w0' c d d' cap cap' ∧ t ≤ cap' ∧ (cap' = cap ∨ cap' = t + 32) ∧ (∀ i : Nat, i < m → f' i = f i) ∧ ∀ i : Nat, m ≤ i → i < t → f' i = 0) := by
    intro w0' w d' cap' f1 hw hX h1 h2 h3
    refine fi_step (pc' := 25) m_Wh_widen rfl rfl ?_
    refine fi_step (pc' := 26) m_Wh_widen rfl rfl ?_
    first | refine t_get (p := 29) m_Wh_widen rfl rfl (by assumption) rfl ?_ | refine o_get (p := 29) m_Wh_widen rfl rfl (by assumption) (by assumption) rfl ?_
    refine s_ic_le (p := 32) m_Wh_widen rfl rfl (by omega) (by omega) (by omega) (by omega) (fun h => ?_) (fun h => ?_)
    · refine p_ret m_Wh_widen rfl rfl ?_
      exact ⟨rfl, w0', d', cap', f1, hw, hX, h1, h2, h3, fun i i0 i1 => by omega⟩
    · refine fi_step (pc' := 33) m_Wh_widen rfl rfl ?_
      first | refine t_get (p := 36) m_Wh_widen rfl rfl (by assumption) rfl ?_ | refine o_get (p := 36) m_Wh_widen rfl rfl (by assumption) (by assumption) rfl ?_
      refine fi_step (pc' := 37) m_Wh_widen rfl rfl ?_
      first | refine t_get (p := 40) m_Wh_widen rfl rfl (by assumption) rfl ?_ | refine o_get (p := 40) m_Wh_widen rfl rfl (by assumption) (by assumption) rfl ?_
      refine fi_step (pc' := 41) m_Wh_widen rfl rfl ?_
      refine fi_step (pc' := 42) m_Wh_widen rfl rfl ?_
      refine g_4 (p := 45) m_Wh_widen rfl inv_s (by decide) m_Ar_fillI rfl rfl (by omega) (by omega) (Nat.le_of_ble_eq_true rfl) (Nat.le_of_ble_eq_true rfl) rfl (h_fill (a := m) (t := t) hw (by omega) h1 (by omega) (by omega) (by omega)) (fun v w hP => ?_)
      obtain ⟨rfl, f2, hw, z2, s2⟩ := hP
      refine p_ret m_Wh_widen rfl rfl ?_
      exact ⟨rfl, w0', d', cap', f2, hw, hX, h1, h2, fun i hi => by rw [s2 i (by omega)]; exact h3 i hi, z2⟩
  refine fi_step (pc' := 1) m_Wh_widen rfl rfl ?_
  refine fi_step (pc' := 2) m_Wh_widen rfl rfl ?_
  first | refine t_get (p := 5) m_Wh_widen rfl rfl (by assumption) rfl ?_ | refine o_get (p := 5) m_Wh_widen rfl rfl (by assumption) (by assumption) rfl ?_
  refine t_len (p := 6) m_Wh_widen rfl rfl (by assumption) ?_
  refine s_ic_le (p := 9) m_Wh_widen rfl rfl (by omega) (by omega) (by omega) (by omega) (fun h => ?_) (fun h => ?_)
  · exact tail w0 w d cap f hw (XT_refl _ _ _ _) (by omega) (Or.inl rfl) (fun _ _ => rfl)
  · have hne := TW_ne hw
    obtain ⟨a1, a2, a3, a4, a5⟩ := hw
    have lc : c < w.length := (List.getElem?_eq_some_iff.mp a4).1
    have ld : d < w.length := (List.getElem?_eq_some_iff.mp a5).1
    have hw : TW w0 w c d cap f m b := ⟨a1, a2, a3, a4, a5⟩
    refine fi_step (pc' := 10) m_Wh_widen rfl rfl ?_
    refine fi_step (pc' := 11) m_Wh_widen rfl rfl ?_
    first | refine t_get (p := 14) m_Wh_widen rfl rfl (by assumption) rfl ?_ | refine o_get (p := 14) m_Wh_widen rfl rfl (by assumption) (by assumption) rfl ?_
    refine fi_step (pc' := 15) m_Wh_widen rfl rfl ?_
    refine s_bipush (p := 17) m_Wh_widen rfl rfl rfl ?_
    refine s_iadd (p := 18) m_Wh_widen rfl rfl ?_
    rw [show (t : Int) + 32 = ((t + 32 : Nat) : Int) by omega]
    refine g_2 (p := 21) m_Wh_widen rfl inv_s (by decide) m_Ar_copyOf rfl rfl (by omega) (by omega) (Nat.le_of_ble_eq_true rfl) (Nat.le_of_ble_eq_true rfl) rfl (h_copyOf (N := t + 32) a5 (by omega) (by omega) (by omega) (by omega) (by omega)) (fun v w hP => ?_)
    obtain ⟨rfl, rfl⟩ := hP
    have e4 : (w ++ [(20, aI (t + 32) (fun i => if i < cap then f i else 0))])[c]? = some (7, [.ref d, .int (jI m), .int (jI b)]) := by rw [List.getElem?_append_left lc]; exact a4
    refine fi_put m_Wh_widen rfl (ks := [2, 0, 1]) (fk := 2) rfl rfl rfl e4 (by simp) ?_
    refine tail (w ++ [(20, aI (t + 32) (fun i => if i < cap then f i else 0))]) _ w.length (t + 32) (fun i => if i < cap then f i else 0) ⟨by simp, sz_set e4 rfl, fun j hc hd => List.getElem?_set_ne (fun e => hc e.symm), ?_, ?_⟩ ⟨by rw [List.length_append]; omega, fun j hj hc hd => ?_, Or.inr (by omega), by omega, by rw [List.length_append, List.length_singleton]; omega, ?_⟩ (by omega) (Or.inr rfl) (fun i hi => if_pos (by omega))
    · rw [List.getElem?_set_self (by rw [List.length_append]; omega)]; rfl
    · rw [List.getElem?_set_ne (by omega)]; simp
    · rw [List.getElem?_append_left (by omega)]; exact a3 j hc hd
    · rw [sz_app _ _ _ (by decide), aI_len, a2]
      have h5 : cap * cap ≤ (t + 32) * (t + 32 - 33) := by
        have : cap * cap ≤ (t + 32) * cap := Nat.mul_le_mul_right _ (by omega)
        have h6 : (t + 32) * cap ≤ (t + 32) * (t + 32 - 33) := Nat.mul_le_mul_left _ (by omega)
        omega
      have h7 : (t + 32) * (t + 32 - 33) + (t + 32) * 33 = (t + 32) * (t + 32) := by rw [← Nat.mul_add]; congr 1; omega
      omega
end WH3
