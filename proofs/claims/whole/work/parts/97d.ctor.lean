/-! CONSTRUCTORS: the reference -/
def mo0 : mo_S := fun a _ => match a with
  | 5 => 1
  | 6 => 1
  | _ => 0
section CT4
variable {xs : List Int32} {fr lo z pc p l c u1 u2 u3 idx i k : Nat} {ls : List (Option Value)} {st : List Value} {w : ax_W} {Q : Outcome → ax_W → Prop} {M : ax_M}
theorem k_iast {x j : Int} {N : Nat} {f : Int → Int} (hM : ax_prog[z]? = some M) (he : M.1[pc]? = some (some (.iastore, l, u1, u2, u3))) (hp : pc + l = p) (hi : w[i]? = some (20, aI N f)) (j0 : 0 ≤ j) (j1 : j < N) (j2 : j < 2147483648) (kk : ∀ w', chg w w' i (20, aI N (up1 f j x)) → fin xs fr lo z p ls st w' Q) : fin xs fr lo z pc ls (.int (jI x) :: .int (jI j) :: .ref i :: st) w Q := by
  subst hp
  refine fi_iast hM he hi (jI_nn j0 j2) (by rw [jI_nat j0 j2, aI_len]; omega) ?_
  rw [jI_nat j0 j2, aI_set j0]
  exact kk _ (chg_set hi (by simp [ax_cs, aI_len]))
theorem n_arf {n : Int} {a1 a2 a3 ix C fld f3 t : Nat} {ty : ArrayType} {d : Value} {ks : List Nat} {fs : List Value} (hM : ax_prog[z]? = some M) (h0 : M.1[pc]? = some (some (.newarray ty, 2, a1, a2, a3))) (h3 : M.1[pc + 2]? = some (some (.putfield ix, 3, C, fld, f3))) (hp : pc + 5 = p) (hat : ax_at ty = some (t, d)) (ht : 20 ≤ t) (n0 : 0 ≤ n) (n1 : n ≤ 100000) (hk1 : ax_kinds[C]? = some ks) (hk2 : ks[fld]? = some 2) (hw : w[c]? = some (C, fs)) (hk : fld < fs.length) (kk : ∀ w', w'.length = w.length + 1 → (∀ j, j ≠ c → j < w.length → w'[j]? = w[j]?) → w'[c]? = some (C, fs.set fld (.ref w.length)) → w'[w.length]? = some (t, List.replicate n.toNat d) → ax_sz w' = ax_sz w + n.toNat → fin xs fr lo z p ls st w' Q) : fin xs fr lo z pc ls (.int (jI n) :: .ref c :: st) w Q := by
  have hlt : c < w.length := (List.getElem?_eq_some_iff.mp hw).1
  refine k_newa (p := pc + 2) hM h0 rfl hat n0 n1 (fun w1 hE => ?_)
  obtain ⟨l1, b1, q1, z1⟩ := hE
  refine k_putf (p := p) hM h3 (by omega) hk1 hk2 rfl ((b1 c hlt).trans hw) hk (fun w2 hG => ?_)
  obtain ⟨l2, b2, q2, z2⟩ := hG
  refine kk w2 (by omega) (fun j j1 j2 => (b2 j j1).trans (b1 j j2)) q2 ((b2 _ (by omega)).trans q1) ?_
  rw [z2, z1]
  congr 1
  unfold ax_cs
  rw [if_neg (by simp only; omega), if_neg (by simp only; omega), List.length_replicate]
theorem mo_fill {fs : List Value} {wS : ax_W} (hf5 : fs[5]? = some (.ref 430)) (hf6 : fs[6]? = some (.ref 431)) (hS : wS[425]? = some (8, fs))
    (K : ∀ w', w'.length = wS.length → (∀ j, j ≠ 430 → j ≠ 431 → w'[j]? = wS[j]?) → w'[430]? = some (20, aI 6 (fun _ => 1)) → w'[431]? = some (20, aI 6 (fun _ => 1)) → ax_sz w' = ax_sz wS → fin xs fr lo 117 125 [some (.ref 425), some (.int (jI ((6 : Nat) : Int)))] [] w' Q) :
    ∀ (n k : Nat) (w : ax_W), k + n = 6 → w.length = wS.length → (∀ j, j ≠ 430 → j ≠ 431 → w[j]? = wS[j]?) → w[430]? = some (20, aI 6 (fun j => if j < k then 1 else 0)) → w[431]? = some (20, aI 6 (fun j => if j < k then 1 else 0)) → ax_sz w = ax_sz wS → fin xs fr lo 117 99 [some (.ref 425), some (.int (jI (k : Int)))] [] w Q := by
  intro n
  induction n with
  | zero =>
    intro k w hk hlen hag h5 h6 hsz
    obtain rfl : k = 6 := by omega
    refine fi_step (pc' := 100) m_Mo_init rfl rfl ?_
    refine s_bipush (p := 102) m_Mo_init rfl rfl rfl ?_
    refine s_ic_ge (p := 105) m_Mo_init rfl rfl (by omega) (by omega) (by omega) (by omega) (fun hbr => ?_) (fun hbr => False.elim (by omega))
    refine K w hlen hag ?_ ?_ hsz
    · rw [h5, aI_ext (g := fun _ => 1) (fun x x0 x1 => by rw [if_pos (by omega)])]
    · rw [h6, aI_ext (g := fun _ => 1) (fun x x0 x1 => by rw [if_pos (by omega)])]
  | succ n ih =>
    intro k w hk hlen hag h5 h6 hsz
    have hx : ∀ x : Int, 0 ≤ x → x < (6 : Nat) → up1 (fun j : Int => if j < k then (1 : Int) else 0) k 1 x = if x < ((k + 1 : Nat) : Int) then 1 else 0 := fun x x0 x1 => by
      by_cases e : x = k
      · subst e; rw [up1_same, if_pos (by omega)]
      · rw [up1_ne _ e]
        by_cases e' : x < k
        · rw [if_pos e', if_pos (by omega)]
        · rw [if_neg e', if_neg (by omega)]
    refine fi_step (pc' := 100) m_Mo_init rfl rfl ?_
    refine s_bipush (p := 102) m_Mo_init rfl rfl rfl ?_
    refine s_ic_ge (p := 105) m_Mo_init rfl rfl (by omega) (by omega) (by omega) (by omega) (fun hbr => False.elim (by omega)) (fun hbr => ?_)
    refine fi_step (pc' := 106) m_Mo_init rfl rfl ?_
    refine k_get (p := 109) m_Mo_init rfl rfl ((hag 425 (by omega) (by omega)).trans hS) hf5 ?_
    refine fi_step (pc' := 110) m_Mo_init rfl rfl ?_
    refine fi_step (pc' := 111) m_Mo_init rfl rfl ?_
    refine k_iast (p := 112) m_Mo_init rfl rfl h5 (by omega) (by omega) (by omega) (fun w1 hG => ?_)
    obtain ⟨l1, a1, n1, z1⟩ := hG
    refine fi_step (pc' := 113) m_Mo_init rfl rfl ?_
    refine k_get (p := 116) m_Mo_init rfl rfl ((a1 425 (by omega)).trans ((hag 425 (by omega) (by omega)).trans hS)) hf6 ?_
    refine fi_step (pc' := 117) m_Mo_init rfl rfl ?_
    refine fi_step (pc' := 118) m_Mo_init rfl rfl ?_
    refine k_iast (p := 119) m_Mo_init rfl rfl ((a1 431 (by omega)).trans h6) (by omega) (by omega) (by omega) (fun w2 hG => ?_)
    obtain ⟨l2, a2, n2, z2⟩ := hG
    refine s_iinc (p := 122) m_Mo_init rfl rfl rfl ?_
    refine fi_step (pc' := 99) m_Mo_init rfl rfl ?_
    rw [show (k : Int) + 1 = ((k + 1 : Nat) : Int) by omega]
    refine ih (k + 1) w2 (by omega) (by omega) (fun j j1 j2 => ((a2 j j2).trans (a1 j j1)).trans (hag j j1 j2)) ?_ ?_ (by omega)
    · rw [a2 430 (by omega), n1, aI_ext (g := fun x => if x < ((k + 1 : Nat) : Int) then 1 else 0) (fun x _ x1 => hx x (by omega) (by omega))]
    · rw [n2, aI_ext (g := fun x => if x < ((k + 1 : Nat) : Int) then 1 else 0) (fun x _ x1 => hx x (by omega) (by omega))]
set_option maxRecDepth 4000 in
theorem i_mo (hw : w[425]? = some (8, [.null, .null, .null, .int 0, .null, .null, .null, .null, .int 0, .int 0, .null, .int 0, .null, .int 0, .null, .int 0, .null])) (hc : w.length = 426) (hfr : 1 ≤ fr) (hlo : 30 ≤ lo) : fin xs fr lo 117 0 (ax_ent [.ref 425] 2) [] w (Ret fun u w' => u = none ∧ w'.length = 437 ∧ (∀ j, j < 425 → w'[j]? = w[j]?) ∧ (∀ k, k < 12 → w'[k + 425]? = some (mc mo0 k)) ∧ ax_sz w' = ax_sz w + 41446) := by
  refine fi_step (pc' := 1) m_Mo_init rfl rfl ?_
  refine k_obj m_Mo_init rfl hfr hlo (by decide) ?_
  refine fi_step (pc' := 5) m_Mo_init rfl rfl ?_
  refine s_ldc (p := 7) 38780 m_Mo_init rfl rfl rfl ?_
  refine n_arf (p := 12) m_Mo_init rfl rfl rfl rfl (by decide) (by omega) (by omega) rfl rfl hw (Nat.le_of_ble_eq_true rfl) (fun m0 l0 a0 n0 r0 z0 => ?_)
  rw [show w.length = 426 by omega] at n0 r0 a0
  rw [show (38780 : Int).toNat = 38780 from rfl] at r0 z0
  refine fi_step (pc' := 13) m_Mo_init rfl rfl ?_
  refine s_sipush (p := 16) m_Mo_init rfl rfl rfl ?_
  refine n_arf (p := 21) m_Mo_init rfl rfl rfl rfl (by decide) (by omega) (by omega) rfl rfl n0 (Nat.le_of_ble_eq_true rfl) (fun m1 l1 a1 n1 r1 z1 => ?_)
  rw [show m0.length = 427 by omega] at n1 r1 a1
  rw [show (277 : Int).toNat = 277 from rfl] at r1 z1
  refine fi_step (pc' := 22) m_Mo_init rfl rfl ?_
  refine s_sipush (p := 25) m_Mo_init rfl rfl rfl ?_
  refine n_arf (p := 30) m_Mo_init rfl rfl rfl rfl (by decide) (by omega) (by omega) rfl rfl n1 (Nat.le_of_ble_eq_true rfl) (fun m2 l2 a2 n2 r2 z2 => ?_)
  rw [show m1.length = 428 by omega] at n2 r2 a2
  rw [show (277 : Int).toNat = 277 from rfl] at r2 z2
  refine fi_step (pc' := 31) m_Mo_init rfl rfl ?_
  refine s_sipush (p := 34) m_Mo_init rfl rfl rfl ?_
  refine n_arf (p := 39) m_Mo_init rfl rfl rfl rfl (by decide) (by omega) (by omega) rfl rfl n2 (Nat.le_of_ble_eq_true rfl) (fun m3 l3 a3 n3 r3 z3 => ?_)
  rw [show m2.length = 429 by omega] at n3 r3 a3
  rw [show (216 : Int).toNat = 216 from rfl] at r3 z3
  refine fi_step (pc' := 40) m_Mo_init rfl rfl ?_
  refine s_bipush (p := 42) m_Mo_init rfl rfl rfl ?_
  refine n_arf (p := 47) m_Mo_init rfl rfl rfl rfl (by decide) (by omega) (by omega) rfl rfl n3 (Nat.le_of_ble_eq_true rfl) (fun m4 l4 a4 n4 r4 z4 => ?_)
  rw [show m3.length = 430 by omega] at n4 r4 a4
  rw [show (6 : Int).toNat = 6 from rfl] at r4 z4
  refine fi_step (pc' := 48) m_Mo_init rfl rfl ?_
  refine s_bipush (p := 50) m_Mo_init rfl rfl rfl ?_
  refine n_arf (p := 55) m_Mo_init rfl rfl rfl rfl (by decide) (by omega) (by omega) rfl rfl n4 (Nat.le_of_ble_eq_true rfl) (fun m5 l5 a5 n5 r5 z5 => ?_)
  rw [show m4.length = 431 by omega] at n5 r5 a5
  rw [show (6 : Int).toNat = 6 from rfl] at r5 z5
  refine fi_step (pc' := 56) m_Mo_init rfl rfl ?_
  refine s_bipush (p := 58) m_Mo_init rfl rfl rfl ?_
  refine n_arf (p := 63) m_Mo_init rfl rfl rfl rfl (by decide) (by omega) (by omega) rfl rfl n5 (Nat.le_of_ble_eq_true rfl) (fun m6 l6 a6 n6 r6 z6 => ?_)
  rw [show m5.length = 432 by omega] at n6 r6 a6
  rw [show (72 : Int).toNat = 72 from rfl] at r6 z6
  refine fi_step (pc' := 64) m_Mo_init rfl rfl ?_
  refine s_bipush (p := 66) m_Mo_init rfl rfl rfl ?_
  refine n_arf (p := 71) m_Mo_init rfl rfl rfl rfl (by decide) (by omega) (by omega) rfl rfl n6 (Nat.le_of_ble_eq_true rfl) (fun m7 l7 a7 n7 r7 z7 => ?_)
  rw [show m6.length = 433 by omega] at n7 r7 a7
  rw [show (6 : Int).toNat = 6 from rfl] at r7 z7
  refine fi_step (pc' := 72) m_Mo_init rfl rfl ?_
  refine s_bipush (p := 74) m_Mo_init rfl rfl rfl ?_
  refine n_arf (p := 79) m_Mo_init rfl rfl rfl rfl (by decide) (by omega) (by omega) rfl rfl n7 (Nat.le_of_ble_eq_true rfl) (fun m8 l8 a8 n8 r8 z8 => ?_)
  rw [show m7.length = 434 by omega] at n8 r8 a8
  rw [show (6 : Int).toNat = 6 from rfl] at r8 z8
  refine fi_step (pc' := 80) m_Mo_init rfl rfl ?_
  refine s_sipush (p := 83) m_Mo_init rfl rfl rfl ?_
  refine n_arf (p := 88) m_Mo_init rfl rfl rfl rfl (by decide) (by omega) (by omega) rfl rfl n8 (Nat.le_of_ble_eq_true rfl) (fun m9 l9 a9 n9 r9 z9 => ?_)
  rw [show m8.length = 435 by omega] at n9 r9 a9
  rw [show (1200 : Int).toNat = 1200 from rfl] at r9 z9
  refine fi_step (pc' := 89) m_Mo_init rfl rfl ?_
  refine s_sipush (p := 92) m_Mo_init rfl rfl rfl ?_
  refine n_arf (p := 97) m_Mo_init rfl rfl rfl rfl (by decide) (by omega) (by omega) rfl rfl n9 (Nat.le_of_ble_eq_true rfl) (fun m10 l10 a10 n10 r10 z10 => ?_)
  rw [show m9.length = 436 by omega] at n10 r10 a10
  rw [show (600 : Int).toNat = 600 from rfl] at r10 z10
  refine fi_step (pc' := 98) m_Mo_init rfl rfl ?_
  refine fi_step (pc' := 99) m_Mo_init rfl rfl ?_
  have o : m10[425]? = some (8, [.ref 426, .ref 427, .ref 428, .int 0, .ref 429, .ref 430, .ref 431, .ref 432, .int 0, .int 0, .ref 433, .int 0, .ref 434, .int 0, .ref 435, .int 0, .ref 436]) := n10
  have t9 : ∀ j, j ≠ 425 → j < 436 → m10[j]? = m9[j]? := a10
  have t8 : ∀ j, j ≠ 425 → j < 435 → m10[j]? = m8[j]? := fun j h1 h2 => (t9 j h1 (by omega)).trans (a9 j h1 h2)
  have t7 : ∀ j, j ≠ 425 → j < 434 → m10[j]? = m7[j]? := fun j h1 h2 => (t8 j h1 (by omega)).trans (a8 j h1 h2)
  have t6 : ∀ j, j ≠ 425 → j < 433 → m10[j]? = m6[j]? := fun j h1 h2 => (t7 j h1 (by omega)).trans (a7 j h1 h2)
  have t5 : ∀ j, j ≠ 425 → j < 432 → m10[j]? = m5[j]? := fun j h1 h2 => (t6 j h1 (by omega)).trans (a6 j h1 h2)
  have t4 : ∀ j, j ≠ 425 → j < 431 → m10[j]? = m4[j]? := fun j h1 h2 => (t5 j h1 (by omega)).trans (a5 j h1 h2)
  have t3 : ∀ j, j ≠ 425 → j < 430 → m10[j]? = m3[j]? := fun j h1 h2 => (t4 j h1 (by omega)).trans (a4 j h1 h2)
  have t2 : ∀ j, j ≠ 425 → j < 429 → m10[j]? = m2[j]? := fun j h1 h2 => (t3 j h1 (by omega)).trans (a3 j h1 h2)
  have t1 : ∀ j, j ≠ 425 → j < 428 → m10[j]? = m1[j]? := fun j h1 h2 => (t2 j h1 (by omega)).trans (a2 j h1 h2)
  have t0 : ∀ j, j ≠ 425 → j < 427 → m10[j]? = m0[j]? := fun j h1 h2 => (t1 j h1 (by omega)).trans (a1 j h1 h2)
  refine mo_fill (wS := m10) rfl rfl o (fun w' lw aw h5 h6 zw => ?_) 6 0 m10 (by omega) rfl (fun _ _ _ => rfl) ?_ ?_ rfl
  · refine p_ret m_Mo_init rfl rfl ?_
    refine ⟨rfl, by omega, fun j hj => ?_, fun k hk => ?_, by omega⟩
    · rw [aw j (by omega) (by omega), t0 j (by omega) (by omega), a0 j (by omega) (by omega)]
    · have : k = 0 ∨ k = 1 ∨ k = 2 ∨ k = 3 ∨ k = 4 ∨ k = 5 ∨ k = 6 ∨ k = 7 ∨ k = 8 ∨ k = 9 ∨ k = 10 ∨ k = 11 := by omega
      rcases this with e | e | e | e | e | e | e | e | e | e | e | e <;> subst e
      · rw [aw 425 (by omega) (by omega), o]; rfl
      · rw [aw 426 (by omega) (by omega), t0 426 (by omega) (by omega), r0, rep_aI]; rfl
      · rw [aw 427 (by omega) (by omega), t1 427 (by omega) (by omega), r1, rep_aI]; rfl
      · rw [aw 428 (by omega) (by omega), t2 428 (by omega) (by omega), r2, rep_aI]; rfl
      · rw [aw 429 (by omega) (by omega), t3 429 (by omega) (by omega), r3, rep_aL]; rfl
      · rw [h5]; rfl
      · rw [h6]; rfl
      · rw [aw 432 (by omega) (by omega), t6 432 (by omega) (by omega), r6, rep_aL]; rfl
      · rw [aw 433 (by omega) (by omega), t7 433 (by omega) (by omega), r7, rep_aI]; rfl
      · rw [aw 434 (by omega) (by omega), t8 434 (by omega) (by omega), r8, rep_aI]; rfl
      · rw [aw 435 (by omega) (by omega), t9 435 (by omega) (by omega), r9, rep_aI]; rfl
      · rw [aw 436 (by omega) (by omega), r10, rep_aI]; rfl
  · rw [t4 430 (by omega) (by omega), r4, rep_aI, aI_ext (g := fun j => if j < ((0 : Nat) : Int) then 1 else 0) (fun x x0 x1 => by rw [if_neg (by omega)])]
  · rw [t5 431 (by omega) (by omega), r5, rep_aI, aI_ext (g := fun j => if j < ((0 : Nat) : Int) then 1 else 0) (fun x x0 x1 => by rw [if_neg (by omega)])]
end CT4
