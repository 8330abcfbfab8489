/-! THE LAW: its wrappers -/
def sc (xs : List Int32) (x : Int) : Int := ((xs[x.toNat]?).getD 0).toInt
theorem sc_b (xs : List Int32) (x : Int) : -2147483648 ≤ sc xs x ∧ sc xs x < 2147483648 := ⟨Int32.le_toInt _, Int32.toInt_lt _⟩
/-- a boolean, a long -/
def CB (w0 : ax_W) (L Z : Nat) (α : AB) (w' : ax_W) : Prop := ∃ s' v', CW w0 w' s' v' L Z ∧ okC s' v' ∧ absC s' = α
section LAW0
variable {xs : List Int32} {fr lo z pc p l zc b u1 u2 u3 : Nat} {ls : List (Option Value)} {st : List Value} {w w0 : ax_W} {Q : Outcome → ax_W → Prop} {M : ax_M} {s : mo_S} {v : Nat → Int} {L Z : Nat} {o : Int64}
theorem l_ld {x : Int} (hM : ax_prog[z]? = some M) (he : M.1[pc]? = some (some (.iaload, l, u1, u2, u3))) (hp : pc + l = p) (x0 : 0 ≤ x) (x1 : x < xs.length) (x2 : x < 2147483648) (kk : fin xs fr lo z p ls (.int (jI (sc xs x)) :: st) w Q) : fin xs fr lo z pc ls (.int (jI x) :: .retAddr 0 :: st) w Q := by
  subst hp
  refine fi_hp hM he rfl rfl rfl (st' := .int (jI (sc xs x)) :: st) (w1 := w) ?_ kk
  have n1 : ¬ (jI x < 0) := jI_nn x0 x2
  have n3 : (jI x).toNatClampNeg = x.toNat := jI_nat x0 x2
  have hlt : x.toNat < xs.length := by omega
  have hx : xs[x.toNat]? = some xs[x.toNat] := List.getElem?_eq_getElem hlt
  have e : jI (sc xs x) = xs[x.toNat] := by unfold sc; rw [hx]; exact Int32.ofInt_toInt _
  rw [e]
  simp [ax_hp, ax_ald, ax_ext, n1, n3, hx]
theorem h_call {t h nl rc : Nat} {kc : List (Option ax_E)} {tb : List (Nat × Nat × Nat × Nat)} {ins : Instr} {as rest : List Value} (hM : ax_prog[z]? = some M) (he : M.1[pc]? = some (some (ins, l, zc, b, u3))) (hi : ax_isinv ins) (hz : zc < 1000) (hM' : ax_prog[zc]? = some (kc, nl, rc, tb)) (hst : st = as.reverse ++ rest) (hn : as.length = b % 100) (hfr : 1 ≤ fr) (hlo : nl + 19 ≤ lo) (hwt : (rest.map ax_wt).sum ≤ 8) (hsl : (ax_sl as).length ≤ nl) (hrc : ax_rcv (b / 100) as w = true) (hc : fin xs (fr - 1) (lo - (nl + 19)) zc 0 (ax_ent as nl) [] w (Thr t w)) (hh : ax_hdl M.2.2.2 pc t = some h) (kk : fin xs fr lo z h ls [.ref w.length] (w ++ [(t, [])]) Q) : fin xs fr lo z pc ls st w Q :=
  fi_call hM he hi rfl rfl hz hM' hfr hlo hst hn hwt hsl hrc hc (fun v w1 h => by cases h.1) (fun i w1 h => by
    obtain ⟨h1, h2⟩ := h
    cases h1
    subst h2
    exact ⟨t, [], app_at _ _, Or.inr ⟨_, hh, kk⟩⟩)
theorem la_combine {to a x b y : Int} {S : Int → AB → Prop} (hC : CW w0 w s v L Z) (hout : w[437]? = some (21, [.long o])) (hfr : 1 ≤ fr) (hlo : 30 ≤ lo) (hc : fin xs (fr - 1) (lo - (11 + 19)) 33 0 (ax_ent [.ref 0, .int (jI to), .int (jI a), .int (jI x), .int (jI b), .int (jI y)] 11) [] w (Ret fun u w' => ∃ c α', S c α' ∧ (-2147483648 ≤ c ∧ c < 2147483648) ∧ CO w0 L Z c α' u w')) : fin xs fr lo 32 0 (ax_ent [.ref 0, .int (jI to), .int (jI a), .int (jI x), .int (jI b), .int (jI y), .ref 437] 8) [] w (Ret fun u w' => u = some (.int (jI 0)) ∧ ∃ c α' w1, S c α' ∧ (-2147483648 ≤ c ∧ c < 2147483648) ∧ CB w0 L Z α' w1 ∧ w' = w1.set 437 (21, [.long (jL c)])) := by
  refine fi_step (pc' := 2) m_La_combine rfl rfl ?_
  refine fi_step (pc' := 3) m_La_combine rfl rfl ?_
  refine fi_step (pc' := 4) m_La_combine rfl rfl ?_
  refine fi_step (pc' := 5) m_La_combine rfl rfl ?_
  refine fi_step (pc' := 6) m_La_combine rfl rfl ?_
  refine fi_step (pc' := 7) m_La_combine rfl rfl ?_
  refine fi_step (pc' := 9) m_La_combine rfl rfl ?_
  refine fi_step (pc' := 11) m_La_combine rfl rfl ?_
  refine g_6 (p := 14) m_La_combine rfl inv_v (by decide) m_De_combine rfl rfl (by omega) (by omega) (Nat.le_of_ble_eq_true rfl) (Nat.le_of_ble_eq_true rfl) (C_rcvD hC _) hc (fun v w hP => ?_)
  obtain ⟨c, α', hS, hr, s', v', h1, h2, h3, rfl⟩ := hP
  have ho : w[437]? = some (21, [.long o]) := ((CW_out h1 (by omega) (by omega)).trans (CW_out hC (by omega) (by omega)).symm).trans hout
  refine s_i2l (p := 15) m_La_combine rfl rfl (by omega) (by omega) ?_
  refine fi_last m_La_combine rfl ho (by decide) (Nat.le_of_ble_eq_true rfl) ?_
  refine fi_step (pc' := 23) m_La_combine rfl rfl ?_
  refine fi_step (pc' := 24) m_La_combine rfl rfl ?_
  refine p_reti m_La_combine rfl rfl ?_
  exact ⟨rfl, c, α', w, hS, hr, ⟨s', v', h1, h2, h3⟩, rfl⟩
theorem la_combineT {to a x b y : Int} (hC : CW w0 w s v L Z) (hfr : 1 ≤ fr) (hlo : 30 ≤ lo) (hc : fin xs (fr - 1) (lo - (11 + 19)) 33 0 (ax_ent [.ref 0, .int (jI to), .int (jI a), .int (jI x), .int (jI b), .int (jI y)] 11) [] w (Thr 9 w)) : fin xs fr lo 32 0 (ax_ent [.ref 0, .int (jI to), .int (jI a), .int (jI x), .int (jI b), .int (jI y), .ref 437] 8) [] w (Ret fun u w' => u = some (.int (jI 1)) ∧ w' = w ++ [(9, [])]) := by
  refine fi_step (pc' := 2) m_La_combine rfl rfl ?_
  refine fi_step (pc' := 3) m_La_combine rfl rfl ?_
  refine fi_step (pc' := 4) m_La_combine rfl rfl ?_
  refine fi_step (pc' := 5) m_La_combine rfl rfl ?_
  refine fi_step (pc' := 6) m_La_combine rfl rfl ?_
  refine fi_step (pc' := 7) m_La_combine rfl rfl ?_
  refine fi_step (pc' := 9) m_La_combine rfl rfl ?_
  refine fi_step (pc' := 11) m_La_combine rfl rfl ?_
  refine h_call (as := [.ref 0, .int (jI to), .int (jI a), .int (jI x), .int (jI b), .int (jI y)]) (rest := [.int (jI 0), .ref 437]) m_La_combine rfl inv_v (by decide) m_De_combine rfl rfl hfr hlo (Nat.le_of_ble_eq_true rfl) (Nat.le_of_ble_eq_true rfl) (C_rcvD hC _) hc rfl ?_
  refine fi_step (pc' := 21) m_La_combine rfl rfl ?_
  refine fi_step (pc' := 22) m_La_combine rfl rfl ?_
  refine p_reti m_La_combine rfl rfl ?_
  exact ⟨rfl, rfl⟩
theorem la_multiply {to a b : Int} {S : Int → AB → Prop} (hC : CW w0 w s v L Z) (hout : w[437]? = some (21, [.long o])) (hfr : 1 ≤ fr) (hlo : 29 ≤ lo) (hc : fin xs (fr - 1) (lo - (10 + 19)) 43 0 (ax_ent [.ref 0, .int (jI to), .int (jI a), .int (jI b)] 10) [] w (Ret fun u w' => ∃ c α', S c α' ∧ (-2147483648 ≤ c ∧ c < 2147483648) ∧ CO w0 L Z c α' u w')) : fin xs fr lo 42 0 (ax_ent [.ref 0, .int (jI to), .int (jI a), .int (jI b), .ref 437] 6) [] w (Ret fun u w' => u = some (.int (jI 0)) ∧ ∃ c α' w1, S c α' ∧ (-2147483648 ≤ c ∧ c < 2147483648) ∧ CB w0 L Z α' w1 ∧ w' = w1.set 437 (21, [.long (jL c)])) := by
  refine fi_step (pc' := 2) m_La_multiply rfl rfl ?_
  refine fi_step (pc' := 3) m_La_multiply rfl rfl ?_
  refine fi_step (pc' := 4) m_La_multiply rfl rfl ?_
  refine fi_step (pc' := 5) m_La_multiply rfl rfl ?_
  refine fi_step (pc' := 6) m_La_multiply rfl rfl ?_
  refine fi_step (pc' := 7) m_La_multiply rfl rfl ?_
  refine g_4 (p := 10) m_La_multiply rfl inv_v (by decide) m_De_multiply rfl rfl (by omega) (by omega) (Nat.le_of_ble_eq_true rfl) (Nat.le_of_ble_eq_true rfl) (C_rcvD hC _) hc (fun v w hP => ?_)
  obtain ⟨c, α', hS, hr, s', v', h1, h2, h3, rfl⟩ := hP
  have ho : w[437]? = some (21, [.long o]) := ((CW_out h1 (by omega) (by omega)).trans (CW_out hC (by omega) (by omega)).symm).trans hout
  refine s_i2l (p := 11) m_La_multiply rfl rfl (by omega) (by omega) ?_
  refine fi_last m_La_multiply rfl ho (by decide) (Nat.le_of_ble_eq_true rfl) ?_
  refine fi_step (pc' := 19) m_La_multiply rfl rfl ?_
  refine fi_step (pc' := 20) m_La_multiply rfl rfl ?_
  refine p_reti m_La_multiply rfl rfl ?_
  exact ⟨rfl, c, α', w, hS, hr, ⟨s', v', h1, h2, h3⟩, rfl⟩
theorem la_multiplyT {to a b : Int} (hC : CW w0 w s v L Z) (hfr : 1 ≤ fr) (hlo : 29 ≤ lo) (hc : fin xs (fr - 1) (lo - (10 + 19)) 43 0 (ax_ent [.ref 0, .int (jI to), .int (jI a), .int (jI b)] 10) [] w (Thr 9 w)) : fin xs fr lo 42 0 (ax_ent [.ref 0, .int (jI to), .int (jI a), .int (jI b), .ref 437] 6) [] w (Ret fun u w' => u = some (.int (jI 1)) ∧ w' = w ++ [(9, [])]) := by
  refine fi_step (pc' := 2) m_La_multiply rfl rfl ?_
  refine fi_step (pc' := 3) m_La_multiply rfl rfl ?_
  refine fi_step (pc' := 4) m_La_multiply rfl rfl ?_
  refine fi_step (pc' := 5) m_La_multiply rfl rfl ?_
  refine fi_step (pc' := 6) m_La_multiply rfl rfl ?_
  refine fi_step (pc' := 7) m_La_multiply rfl rfl ?_
  refine h_call (as := [.ref 0, .int (jI to), .int (jI a), .int (jI b)]) (rest := [.int (jI 0), .ref 437]) m_La_multiply rfl inv_v (by decide) m_De_multiply rfl rfl hfr hlo (Nat.le_of_ble_eq_true rfl) (Nat.le_of_ble_eq_true rfl) (C_rcvD hC _) hc rfl ?_
  refine fi_step (pc' := 17) m_La_multiply rfl rfl ?_
  refine fi_step (pc' := 18) m_La_multiply rfl rfl ?_
  refine p_reti m_La_multiply rfl rfl ?_
  exact ⟨rfl, rfl⟩
theorem la_rank {m : Int} {S : Int → AB → Prop} (hC : CW w0 w s v L Z) (hout : w[437]? = some (21, [.long o])) (hfr : 1 ≤ fr) (hlo : 21 ≤ lo) (hc : fin xs (fr - 1) (lo - (2 + 19)) 47 0 (ax_ent [.ref 0, .int (jI m)] 2) [] w (Ret fun u w' => ∃ c α', S c α' ∧ (-2147483648 ≤ c ∧ c < 2147483648) ∧ CO w0 L Z c α' u w')) : fin xs fr lo 46 0 (ax_ent [.ref 0, .int (jI m), .ref 437] 4) [] w (Ret fun u w' => u = some (.int (jI 0)) ∧ ∃ c α' w1, S c α' ∧ (-2147483648 ≤ c ∧ c < 2147483648) ∧ CB w0 L Z α' w1 ∧ w' = w1.set 437 (21, [.long (jL c)])) := by
  refine fi_step (pc' := 1) m_La_rank rfl rfl ?_
  refine fi_step (pc' := 2) m_La_rank rfl rfl ?_
  refine fi_step (pc' := 3) m_La_rank rfl rfl ?_
  refine fi_step (pc' := 4) m_La_rank rfl rfl ?_
  refine g_2 (p := 7) m_La_rank rfl inv_v (by decide) m_De_rank rfl rfl (by omega) (by omega) (Nat.le_of_ble_eq_true rfl) (Nat.le_of_ble_eq_true rfl) (C_rcvD hC _) hc (fun v w hP => ?_)
  obtain ⟨c, α', hS, hr, s', v', h1, h2, h3, rfl⟩ := hP
  have ho : w[437]? = some (21, [.long o]) := ((CW_out h1 (by omega) (by omega)).trans (CW_out hC (by omega) (by omega)).symm).trans hout
  refine s_i2l (p := 8) m_La_rank rfl rfl (by omega) (by omega) ?_
  refine fi_last m_La_rank rfl ho (by decide) (Nat.le_of_ble_eq_true rfl) ?_
  refine fi_step (pc' := 15) m_La_rank rfl rfl ?_
  refine fi_step (pc' := 16) m_La_rank rfl rfl ?_
  refine p_reti m_La_rank rfl rfl ?_
  exact ⟨rfl, c, α', w, hS, hr, ⟨s', v', h1, h2, h3⟩, rfl⟩
theorem la_rankT {m : Int} (hC : CW w0 w s v L Z) (hfr : 1 ≤ fr) (hlo : 21 ≤ lo) (hc : fin xs (fr - 1) (lo - (2 + 19)) 47 0 (ax_ent [.ref 0, .int (jI m)] 2) [] w (Thr 9 w)) : fin xs fr lo 46 0 (ax_ent [.ref 0, .int (jI m), .ref 437] 4) [] w (Ret fun u w' => u = some (.int (jI 1)) ∧ w' = w ++ [(9, [])]) := by
  refine fi_step (pc' := 1) m_La_rank rfl rfl ?_
  refine fi_step (pc' := 2) m_La_rank rfl rfl ?_
  refine fi_step (pc' := 3) m_La_rank rfl rfl ?_
  refine fi_step (pc' := 4) m_La_rank rfl rfl ?_
  refine h_call (as := [.ref 0, .int (jI m)]) (rest := [.int (jI 0), .ref 437]) m_La_rank rfl inv_v (by decide) m_De_rank rfl rfl hfr hlo (Nat.le_of_ble_eq_true rfl) (Nat.le_of_ble_eq_true rfl) (C_rcvD hC _) hc rfl ?_
  refine fi_step (pc' := 13) m_La_rank rfl rfl ?_
  refine fi_step (pc' := 14) m_La_rank rfl rfl ?_
  refine p_reti m_La_rank rfl rfl ?_
  exact ⟨rfl, rfl⟩
theorem la_hermite {to a : Int} {S : Int → AB → Prop} (hC : CW w0 w s v L Z) (hout : w[437]? = some (21, [.long o])) (hfr : 1 ≤ fr) (hlo : 25 ≤ lo) (hc : fin xs (fr - 1) (lo - (6 + 19)) 56 0 (ax_ent [.ref 0, .int (jI to), .int (jI a)] 6) [] w (Ret fun u w' => ∃ c α', S c α' ∧ (-2147483648 ≤ c ∧ c < 2147483648) ∧ CO w0 L Z c α' u w')) : fin xs fr lo 55 0 (ax_ent [.ref 0, .int (jI to), .int (jI a), .ref 437] 5) [] w (Ret fun u w' => u = some (.int (jI 0)) ∧ ∃ c α' w1, S c α' ∧ (-2147483648 ≤ c ∧ c < 2147483648) ∧ CB w0 L Z α' w1 ∧ w' = w1.set 437 (21, [.long (jL c)])) := by
  refine fi_step (pc' := 1) m_La_hermite rfl rfl ?_
  refine fi_step (pc' := 2) m_La_hermite rfl rfl ?_
  refine fi_step (pc' := 3) m_La_hermite rfl rfl ?_
  refine fi_step (pc' := 4) m_La_hermite rfl rfl ?_
  refine fi_step (pc' := 5) m_La_hermite rfl rfl ?_
  refine g_3 (p := 8) m_La_hermite rfl inv_v (by decide) m_De_hermite rfl rfl (by omega) (by omega) (Nat.le_of_ble_eq_true rfl) (Nat.le_of_ble_eq_true rfl) (C_rcvD hC _) hc (fun v w hP => ?_)
  obtain ⟨c, α', hS, hr, s', v', h1, h2, h3, rfl⟩ := hP
  have ho : w[437]? = some (21, [.long o]) := ((CW_out h1 (by omega) (by omega)).trans (CW_out hC (by omega) (by omega)).symm).trans hout
  refine s_i2l (p := 9) m_La_hermite rfl rfl (by omega) (by omega) ?_
  refine fi_last m_La_hermite rfl ho (by decide) (Nat.le_of_ble_eq_true rfl) ?_
  refine fi_step (pc' := 17) m_La_hermite rfl rfl ?_
  refine fi_step (pc' := 18) m_La_hermite rfl rfl ?_
  refine p_reti m_La_hermite rfl rfl ?_
  exact ⟨rfl, c, α', w, hS, hr, ⟨s', v', h1, h2, h3⟩, rfl⟩
theorem la_hermiteT {to a : Int} (hC : CW w0 w s v L Z) (hfr : 1 ≤ fr) (hlo : 25 ≤ lo) (hc : fin xs (fr - 1) (lo - (6 + 19)) 56 0 (ax_ent [.ref 0, .int (jI to), .int (jI a)] 6) [] w (Thr 9 w)) : fin xs fr lo 55 0 (ax_ent [.ref 0, .int (jI to), .int (jI a), .ref 437] 5) [] w (Ret fun u w' => u = some (.int (jI 1)) ∧ w' = w ++ [(9, [])]) := by
  refine fi_step (pc' := 1) m_La_hermite rfl rfl ?_
  refine fi_step (pc' := 2) m_La_hermite rfl rfl ?_
  refine fi_step (pc' := 3) m_La_hermite rfl rfl ?_
  refine fi_step (pc' := 4) m_La_hermite rfl rfl ?_
  refine fi_step (pc' := 5) m_La_hermite rfl rfl ?_
  refine h_call (as := [.ref 0, .int (jI to), .int (jI a)]) (rest := [.int (jI 0), .ref 437]) m_La_hermite rfl inv_v (by decide) m_De_hermite rfl rfl hfr hlo (Nat.le_of_ble_eq_true rfl) (Nat.le_of_ble_eq_true rfl) (C_rcvD hC _) hc rfl ?_
  refine fi_step (pc' := 15) m_La_hermite rfl rfl ?_
  refine fi_step (pc' := 16) m_La_hermite rfl rfl ?_
  refine p_reti m_La_hermite rfl rfl ?_
  exact ⟨rfl, rfl⟩
theorem la_kernel {to a : Int} {S : Int → AB → Prop} (hC : CW w0 w s v L Z) (hout : w[437]? = some (21, [.long o])) (hfr : 1 ≤ fr) (hlo : 26 ≤ lo) (hc : fin xs (fr - 1) (lo - (7 + 19)) 79 0 (ax_ent [.ref 0, .int (jI to), .int (jI a)] 7) [] w (Ret fun u w' => ∃ c α', S c α' ∧ (-2147483648 ≤ c ∧ c < 2147483648) ∧ CO w0 L Z c α' u w')) : fin xs fr lo 78 0 (ax_ent [.ref 0, .int (jI to), .int (jI a), .ref 437] 5) [] w (Ret fun u w' => u = some (.int (jI 0)) ∧ ∃ c α' w1, S c α' ∧ (-2147483648 ≤ c ∧ c < 2147483648) ∧ CB w0 L Z α' w1 ∧ w' = w1.set 437 (21, [.long (jL c)])) := by
  refine fi_step (pc' := 1) m_La_kernel rfl rfl ?_
  refine fi_step (pc' := 2) m_La_kernel rfl rfl ?_
  refine fi_step (pc' := 3) m_La_kernel rfl rfl ?_
  refine fi_step (pc' := 4) m_La_kernel rfl rfl ?_
  refine fi_step (pc' := 5) m_La_kernel rfl rfl ?_
  refine g_3 (p := 8) m_La_kernel rfl inv_v (by decide) m_De_kernel rfl rfl (by omega) (by omega) (Nat.le_of_ble_eq_true rfl) (Nat.le_of_ble_eq_true rfl) (C_rcvD hC _) hc (fun v w hP => ?_)
  obtain ⟨c, α', hS, hr, s', v', h1, h2, h3, rfl⟩ := hP
  have ho : w[437]? = some (21, [.long o]) := ((CW_out h1 (by omega) (by omega)).trans (CW_out hC (by omega) (by omega)).symm).trans hout
  refine s_i2l (p := 9) m_La_kernel rfl rfl (by omega) (by omega) ?_
  refine fi_last m_La_kernel rfl ho (by decide) (Nat.le_of_ble_eq_true rfl) ?_
  refine fi_step (pc' := 17) m_La_kernel rfl rfl ?_
  refine fi_step (pc' := 18) m_La_kernel rfl rfl ?_
  refine p_reti m_La_kernel rfl rfl ?_
  exact ⟨rfl, c, α', w, hS, hr, ⟨s', v', h1, h2, h3⟩, rfl⟩
theorem la_kernelT {to a : Int} (hC : CW w0 w s v L Z) (hfr : 1 ≤ fr) (hlo : 26 ≤ lo) (hc : fin xs (fr - 1) (lo - (7 + 19)) 79 0 (ax_ent [.ref 0, .int (jI to), .int (jI a)] 7) [] w (Thr 9 w)) : fin xs fr lo 78 0 (ax_ent [.ref 0, .int (jI to), .int (jI a), .ref 437] 5) [] w (Ret fun u w' => u = some (.int (jI 1)) ∧ w' = w ++ [(9, [])]) := by
  refine fi_step (pc' := 1) m_La_kernel rfl rfl ?_
  refine fi_step (pc' := 2) m_La_kernel rfl rfl ?_
  refine fi_step (pc' := 3) m_La_kernel rfl rfl ?_
  refine fi_step (pc' := 4) m_La_kernel rfl rfl ?_
  refine fi_step (pc' := 5) m_La_kernel rfl rfl ?_
  refine h_call (as := [.ref 0, .int (jI to), .int (jI a)]) (rest := [.int (jI 0), .ref 437]) m_La_kernel rfl inv_v (by decide) m_De_kernel rfl rfl hfr hlo (Nat.le_of_ble_eq_true rfl) (Nat.le_of_ble_eq_true rfl) (C_rcvD hC _) hc rfl ?_
  refine fi_step (pc' := 15) m_La_kernel rfl rfl ?_
  refine fi_step (pc' := 16) m_La_kernel rfl rfl ?_
  refine p_reti m_La_kernel rfl rfl ?_
  exact ⟨rfl, rfl⟩
theorem la_solve {to a b : Int} {S : Int → AB → Prop} (hC : CW w0 w s v L Z) (hout : w[437]? = some (21, [.long o])) (hfr : 1 ≤ fr) (hlo : 29 ≤ lo) (hc : fin xs (fr - 1) (lo - (10 + 19)) 81 0 (ax_ent [.ref 0, .int (jI to), .int (jI a), .int (jI b)] 10) [] w (Ret fun u w' => ∃ c α', S c α' ∧ (-2147483648 ≤ c ∧ c < 2147483648) ∧ CO w0 L Z c α' u w')) : fin xs fr lo 80 0 (ax_ent [.ref 0, .int (jI to), .int (jI a), .int (jI b), .ref 437] 6) [] w (Ret fun u w' => u = some (.int (jI 0)) ∧ ∃ c α' w1, S c α' ∧ (-2147483648 ≤ c ∧ c < 2147483648) ∧ CB w0 L Z α' w1 ∧ w' = w1.set 437 (21, [.long (jL c)])) := by
  refine fi_step (pc' := 2) m_La_solve rfl rfl ?_
  refine fi_step (pc' := 3) m_La_solve rfl rfl ?_
  refine fi_step (pc' := 4) m_La_solve rfl rfl ?_
  refine fi_step (pc' := 5) m_La_solve rfl rfl ?_
  refine fi_step (pc' := 6) m_La_solve rfl rfl ?_
  refine fi_step (pc' := 7) m_La_solve rfl rfl ?_
  refine g_4 (p := 10) m_La_solve rfl inv_v (by decide) m_De_solve rfl rfl (by omega) (by omega) (Nat.le_of_ble_eq_true rfl) (Nat.le_of_ble_eq_true rfl) (C_rcvD hC _) hc (fun v w hP => ?_)
  obtain ⟨c, α', hS, hr, s', v', h1, h2, h3, rfl⟩ := hP
  have ho : w[437]? = some (21, [.long o]) := ((CW_out h1 (by omega) (by omega)).trans (CW_out hC (by omega) (by omega)).symm).trans hout
  refine s_i2l (p := 11) m_La_solve rfl rfl (by omega) (by omega) ?_
  refine fi_last m_La_solve rfl ho (by decide) (Nat.le_of_ble_eq_true rfl) ?_
  refine fi_step (pc' := 19) m_La_solve rfl rfl ?_
  refine fi_step (pc' := 20) m_La_solve rfl rfl ?_
  refine p_reti m_La_solve rfl rfl ?_
  exact ⟨rfl, c, α', w, hS, hr, ⟨s', v', h1, h2, h3⟩, rfl⟩
theorem la_solveT {to a b : Int} (hC : CW w0 w s v L Z) (hfr : 1 ≤ fr) (hlo : 29 ≤ lo) (hc : fin xs (fr - 1) (lo - (10 + 19)) 81 0 (ax_ent [.ref 0, .int (jI to), .int (jI a), .int (jI b)] 10) [] w (Thr 9 w)) : fin xs fr lo 80 0 (ax_ent [.ref 0, .int (jI to), .int (jI a), .int (jI b), .ref 437] 6) [] w (Ret fun u w' => u = some (.int (jI 1)) ∧ w' = w ++ [(9, [])]) := by
  refine fi_step (pc' := 2) m_La_solve rfl rfl ?_
  refine fi_step (pc' := 3) m_La_solve rfl rfl ?_
  refine fi_step (pc' := 4) m_La_solve rfl rfl ?_
  refine fi_step (pc' := 5) m_La_solve rfl rfl ?_
  refine fi_step (pc' := 6) m_La_solve rfl rfl ?_
  refine fi_step (pc' := 7) m_La_solve rfl rfl ?_
  refine h_call (as := [.ref 0, .int (jI to), .int (jI a), .int (jI b)]) (rest := [.int (jI 0), .ref 437]) m_La_solve rfl inv_v (by decide) m_De_solve rfl rfl hfr hlo (Nat.le_of_ble_eq_true rfl) (Nat.le_of_ble_eq_true rfl) (C_rcvD hC _) hc rfl ?_
  refine fi_step (pc' := 17) m_La_solve rfl rfl ?_
  refine fi_step (pc' := 18) m_La_solve rfl rfl ?_
  refine p_reti m_La_solve rfl rfl ?_
  exact ⟨rfl, rfl⟩
theorem la_determinant {m : Int} {S : Int → AB → Prop} (hC : CW w0 w s v L Z) (hout : w[437]? = some (21, [.long o])) (hfr : 1 ≤ fr) (hlo : 22 ≤ lo) (hc : fin xs (fr - 1) (lo - (3 + 19)) 84 0 (ax_ent [.ref 0, .int (jI m)] 3) [] w (Ret fun u w' => ∃ c α', S c α' ∧ (-2147483648 ≤ c ∧ c < 2147483648) ∧ CO w0 L Z c α' u w')) : fin xs fr lo 83 0 (ax_ent [.ref 0, .int (jI m), .ref 437] 4) [] w (Ret fun u w' => u = some (.int (jI 0)) ∧ ∃ c α' w1, S c α' ∧ (-2147483648 ≤ c ∧ c < 2147483648) ∧ CB w0 L Z α' w1 ∧ w' = w1.set 437 (21, [.long (jL c)])) := by
  refine fi_step (pc' := 1) m_La_determinant rfl rfl ?_
  refine fi_step (pc' := 2) m_La_determinant rfl rfl ?_
  refine fi_step (pc' := 3) m_La_determinant rfl rfl ?_
  refine fi_step (pc' := 4) m_La_determinant rfl rfl ?_
  refine g_2 (p := 7) m_La_determinant rfl inv_v (by decide) m_De_determinant rfl rfl (by omega) (by omega) (Nat.le_of_ble_eq_true rfl) (Nat.le_of_ble_eq_true rfl) (C_rcvD hC _) hc (fun v w hP => ?_)
  obtain ⟨c, α', hS, hr, s', v', h1, h2, h3, rfl⟩ := hP
  have ho : w[437]? = some (21, [.long o]) := ((CW_out h1 (by omega) (by omega)).trans (CW_out hC (by omega) (by omega)).symm).trans hout
  refine s_i2l (p := 8) m_La_determinant rfl rfl (by omega) (by omega) ?_
  refine fi_last m_La_determinant rfl ho (by decide) (Nat.le_of_ble_eq_true rfl) ?_
  refine fi_step (pc' := 15) m_La_determinant rfl rfl ?_
  refine fi_step (pc' := 16) m_La_determinant rfl rfl ?_
  refine p_reti m_La_determinant rfl rfl ?_
  exact ⟨rfl, c, α', w, hS, hr, ⟨s', v', h1, h2, h3⟩, rfl⟩
theorem la_determinantT {m : Int} (hC : CW w0 w s v L Z) (hfr : 1 ≤ fr) (hlo : 22 ≤ lo) (hc : fin xs (fr - 1) (lo - (3 + 19)) 84 0 (ax_ent [.ref 0, .int (jI m)] 3) [] w (Thr 9 w)) : fin xs fr lo 83 0 (ax_ent [.ref 0, .int (jI m), .ref 437] 4) [] w (Ret fun u w' => u = some (.int (jI 1)) ∧ w' = w ++ [(9, [])]) := by
  refine fi_step (pc' := 1) m_La_determinant rfl rfl ?_
  refine fi_step (pc' := 2) m_La_determinant rfl rfl ?_
  refine fi_step (pc' := 3) m_La_determinant rfl rfl ?_
  refine fi_step (pc' := 4) m_La_determinant rfl rfl ?_
  refine h_call (as := [.ref 0, .int (jI m)]) (rest := [.int (jI 0), .ref 437]) m_La_determinant rfl inv_v (by decide) m_De_determinant rfl rfl hfr hlo (Nat.le_of_ble_eq_true rfl) (Nat.le_of_ble_eq_true rfl) (C_rcvD hC _) hc rfl ?_
  refine fi_step (pc' := 13) m_La_determinant rfl rfl ?_
  refine fi_step (pc' := 14) m_La_determinant rfl rfl ?_
  refine p_reti m_La_determinant rfl rfl ?_
  exact ⟨rfl, rfl⟩
theorem la_divisor {m k : Int} {S : Int → AB → Prop} (hC : CW w0 w s v L Z) (hout : w[437]? = some (21, [.long o])) (hfr : 1 ≤ fr) (hlo : 23 ≤ lo) (hc : fin xs (fr - 1) (lo - (4 + 19)) 92 0 (ax_ent [.ref 0, .int (jI m), .int (jI k)] 4) [] w (Ret fun u w' => ∃ c α', S c α' ∧ (-2147483648 ≤ c ∧ c < 2147483648) ∧ CO w0 L Z c α' u w')) : fin xs fr lo 91 0 (ax_ent [.ref 0, .int (jI m), .int (jI k), .ref 437] 5) [] w (Ret fun u w' => u = some (.int (jI 0)) ∧ ∃ c α' w1, S c α' ∧ (-2147483648 ≤ c ∧ c < 2147483648) ∧ CB w0 L Z α' w1 ∧ w' = w1.set 437 (21, [.long (jL c)])) := by
  refine fi_step (pc' := 1) m_La_divisor rfl rfl ?_
  refine fi_step (pc' := 2) m_La_divisor rfl rfl ?_
  refine fi_step (pc' := 3) m_La_divisor rfl rfl ?_
  refine fi_step (pc' := 4) m_La_divisor rfl rfl ?_
  refine fi_step (pc' := 5) m_La_divisor rfl rfl ?_
  refine g_3 (p := 8) m_La_divisor rfl inv_v (by decide) m_De_divisor rfl rfl (by omega) (by omega) (Nat.le_of_ble_eq_true rfl) (Nat.le_of_ble_eq_true rfl) (C_rcvD hC _) hc (fun v w hP => ?_)
  obtain ⟨c, α', hS, hr, s', v', h1, h2, h3, rfl⟩ := hP
  have ho : w[437]? = some (21, [.long o]) := ((CW_out h1 (by omega) (by omega)).trans (CW_out hC (by omega) (by omega)).symm).trans hout
  refine s_i2l (p := 9) m_La_divisor rfl rfl (by omega) (by omega) ?_
  refine fi_last m_La_divisor rfl ho (by decide) (Nat.le_of_ble_eq_true rfl) ?_
  refine fi_step (pc' := 17) m_La_divisor rfl rfl ?_
  refine fi_step (pc' := 18) m_La_divisor rfl rfl ?_
  refine p_reti m_La_divisor rfl rfl ?_
  exact ⟨rfl, c, α', w, hS, hr, ⟨s', v', h1, h2, h3⟩, rfl⟩
theorem la_divisorT {m k : Int} (hC : CW w0 w s v L Z) (hfr : 1 ≤ fr) (hlo : 23 ≤ lo) (hc : fin xs (fr - 1) (lo - (4 + 19)) 92 0 (ax_ent [.ref 0, .int (jI m), .int (jI k)] 4) [] w (Thr 9 w)) : fin xs fr lo 91 0 (ax_ent [.ref 0, .int (jI m), .int (jI k), .ref 437] 5) [] w (Ret fun u w' => u = some (.int (jI 1)) ∧ w' = w ++ [(9, [])]) := by
  refine fi_step (pc' := 1) m_La_divisor rfl rfl ?_
  refine fi_step (pc' := 2) m_La_divisor rfl rfl ?_
  refine fi_step (pc' := 3) m_La_divisor rfl rfl ?_
  refine fi_step (pc' := 4) m_La_divisor rfl rfl ?_
  refine fi_step (pc' := 5) m_La_divisor rfl rfl ?_
  refine h_call (as := [.ref 0, .int (jI m), .int (jI k)]) (rest := [.int (jI 0), .ref 437]) m_La_divisor rfl inv_v (by decide) m_De_divisor rfl rfl hfr hlo (Nat.le_of_ble_eq_true rfl) (Nat.le_of_ble_eq_true rfl) (C_rcvD hC _) hc rfl ?_
  refine fi_step (pc' := 15) m_La_divisor rfl rfl ?_
  refine fi_step (pc' := 16) m_La_divisor rfl rfl ?_
  refine p_reti m_La_divisor rfl rfl ?_
  exact ⟨rfl, rfl⟩
theorem la_factor {m k : Int} {S : Int → AB → Prop} (hC : CW w0 w s v L Z) (hout : w[437]? = some (21, [.long o])) (hfr : 1 ≤ fr) (hlo : 23 ≤ lo) (hc : fin xs (fr - 1) (lo - (4 + 19)) 97 0 (ax_ent [.ref 0, .int (jI m), .int (jI k)] 4) [] w (Ret fun u w' => ∃ c α', S c α' ∧ (-2147483648 ≤ c ∧ c < 2147483648) ∧ CO w0 L Z c α' u w')) : fin xs fr lo 96 0 (ax_ent [.ref 0, .int (jI m), .int (jI k), .ref 437] 5) [] w (Ret fun u w' => u = some (.int (jI 0)) ∧ ∃ c α' w1, S c α' ∧ (-2147483648 ≤ c ∧ c < 2147483648) ∧ CB w0 L Z α' w1 ∧ w' = w1.set 437 (21, [.long (jL c)])) := by
  refine fi_step (pc' := 1) m_La_factor rfl rfl ?_
  refine fi_step (pc' := 2) m_La_factor rfl rfl ?_
  refine fi_step (pc' := 3) m_La_factor rfl rfl ?_
  refine fi_step (pc' := 4) m_La_factor rfl rfl ?_
  refine fi_step (pc' := 5) m_La_factor rfl rfl ?_
  refine g_3 (p := 8) m_La_factor rfl inv_v (by decide) m_De_factor rfl rfl (by omega) (by omega) (Nat.le_of_ble_eq_true rfl) (Nat.le_of_ble_eq_true rfl) (C_rcvD hC _) hc (fun v w hP => ?_)
  obtain ⟨c, α', hS, hr, s', v', h1, h2, h3, rfl⟩ := hP
  have ho : w[437]? = some (21, [.long o]) := ((CW_out h1 (by omega) (by omega)).trans (CW_out hC (by omega) (by omega)).symm).trans hout
  refine s_i2l (p := 9) m_La_factor rfl rfl (by omega) (by omega) ?_
  refine fi_last m_La_factor rfl ho (by decide) (Nat.le_of_ble_eq_true rfl) ?_
  refine fi_step (pc' := 17) m_La_factor rfl rfl ?_
  refine fi_step (pc' := 18) m_La_factor rfl rfl ?_
  refine p_reti m_La_factor rfl rfl ?_
  exact ⟨rfl, c, α', w, hS, hr, ⟨s', v', h1, h2, h3⟩, rfl⟩
theorem la_factorT {m k : Int} (hC : CW w0 w s v L Z) (hfr : 1 ≤ fr) (hlo : 23 ≤ lo) (hc : fin xs (fr - 1) (lo - (4 + 19)) 97 0 (ax_ent [.ref 0, .int (jI m), .int (jI k)] 4) [] w (Thr 9 w)) : fin xs fr lo 96 0 (ax_ent [.ref 0, .int (jI m), .int (jI k), .ref 437] 5) [] w (Ret fun u w' => u = some (.int (jI 1)) ∧ w' = w ++ [(9, [])]) := by
  refine fi_step (pc' := 1) m_La_factor rfl rfl ?_
  refine fi_step (pc' := 2) m_La_factor rfl rfl ?_
  refine fi_step (pc' := 3) m_La_factor rfl rfl ?_
  refine fi_step (pc' := 4) m_La_factor rfl rfl ?_
  refine fi_step (pc' := 5) m_La_factor rfl rfl ?_
  refine h_call (as := [.ref 0, .int (jI m), .int (jI k)]) (rest := [.int (jI 0), .ref 437]) m_La_factor rfl inv_v (by decide) m_De_factor rfl rfl hfr hlo (Nat.le_of_ble_eq_true rfl) (Nat.le_of_ble_eq_true rfl) (C_rcvD hC _) hc rfl ?_
  refine fi_step (pc' := 15) m_La_factor rfl rfl ?_
  refine fi_step (pc' := 16) m_La_factor rfl rfl ?_
  refine p_reti m_La_factor rfl rfl ?_
  exact ⟨rfl, rfl⟩
theorem la_inverse {m i j : Int} {S : Int → AB → Prop} (hC : CW w0 w s v L Z) (hout : w[437]? = some (21, [.long o])) (hfr : 1 ≤ fr) (hlo : 25 ≤ lo) (hc : fin xs (fr - 1) (lo - (6 + 19)) 99 0 (ax_ent [.ref 0, .int (jI m), .int (jI i), .int (jI j)] 6) [] w (Ret fun u w' => ∃ c α', S c α' ∧ (-2147483648 ≤ c ∧ c < 2147483648) ∧ CO w0 L Z c α' u w')) : fin xs fr lo 98 0 (ax_ent [.ref 0, .int (jI m), .int (jI i), .int (jI j), .ref 437] 6) [] w (Ret fun u w' => u = some (.int (jI 0)) ∧ ∃ c α' w1, S c α' ∧ (-2147483648 ≤ c ∧ c < 2147483648) ∧ CB w0 L Z α' w1 ∧ w' = w1.set 437 (21, [.long (jL c)])) := by
  refine fi_step (pc' := 2) m_La_inverse rfl rfl ?_
  refine fi_step (pc' := 3) m_La_inverse rfl rfl ?_
  refine fi_step (pc' := 4) m_La_inverse rfl rfl ?_
  refine fi_step (pc' := 5) m_La_inverse rfl rfl ?_
  refine fi_step (pc' := 6) m_La_inverse rfl rfl ?_
  refine fi_step (pc' := 7) m_La_inverse rfl rfl ?_
  refine g_4 (p := 10) m_La_inverse rfl inv_v (by decide) m_De_inverse rfl rfl (by omega) (by omega) (Nat.le_of_ble_eq_true rfl) (Nat.le_of_ble_eq_true rfl) (C_rcvD hC _) hc (fun v w hP => ?_)
  obtain ⟨c, α', hS, hr, s', v', h1, h2, h3, rfl⟩ := hP
  have ho : w[437]? = some (21, [.long o]) := ((CW_out h1 (by omega) (by omega)).trans (CW_out hC (by omega) (by omega)).symm).trans hout
  refine s_i2l (p := 11) m_La_inverse rfl rfl (by omega) (by omega) ?_
  refine fi_last m_La_inverse rfl ho (by decide) (Nat.le_of_ble_eq_true rfl) ?_
  refine fi_step (pc' := 19) m_La_inverse rfl rfl ?_
  refine fi_step (pc' := 20) m_La_inverse rfl rfl ?_
  refine p_reti m_La_inverse rfl rfl ?_
  exact ⟨rfl, c, α', w, hS, hr, ⟨s', v', h1, h2, h3⟩, rfl⟩
theorem la_inverseT {m i j : Int} (hC : CW w0 w s v L Z) (hfr : 1 ≤ fr) (hlo : 25 ≤ lo) (hc : fin xs (fr - 1) (lo - (6 + 19)) 99 0 (ax_ent [.ref 0, .int (jI m), .int (jI i), .int (jI j)] 6) [] w (Thr 9 w)) : fin xs fr lo 98 0 (ax_ent [.ref 0, .int (jI m), .int (jI i), .int (jI j), .ref 437] 6) [] w (Ret fun u w' => u = some (.int (jI 1)) ∧ w' = w ++ [(9, [])]) := by
  refine fi_step (pc' := 2) m_La_inverse rfl rfl ?_
  refine fi_step (pc' := 3) m_La_inverse rfl rfl ?_
  refine fi_step (pc' := 4) m_La_inverse rfl rfl ?_
  refine fi_step (pc' := 5) m_La_inverse rfl rfl ?_
  refine fi_step (pc' := 6) m_La_inverse rfl rfl ?_
  refine fi_step (pc' := 7) m_La_inverse rfl rfl ?_
  refine h_call (as := [.ref 0, .int (jI m), .int (jI i), .int (jI j)]) (rest := [.int (jI 0), .ref 437]) m_La_inverse rfl inv_v (by decide) m_De_inverse rfl rfl hfr hlo (Nat.le_of_ble_eq_true rfl) (Nat.le_of_ble_eq_true rfl) (C_rcvD hC _) hc rfl ?_
  refine fi_step (pc' := 17) m_La_inverse rfl rfl ?_
  refine fi_step (pc' := 18) m_La_inverse rfl rfl ?_
  refine p_reti m_La_inverse rfl rfl ?_
  exact ⟨rfl, rfl⟩
theorem la_characteristic {m k : Int} {S : Int → AB → Prop} (hC : CW w0 w s v L Z) (hout : w[437]? = some (21, [.long o])) (hfr : 1 ≤ fr) (hlo : 24 ≤ lo) (hc : fin xs (fr - 1) (lo - (5 + 19)) 105 0 (ax_ent [.ref 0, .int (jI m), .int (jI k)] 5) [] w (Ret fun u w' => ∃ c α', S c α' ∧ (-2147483648 ≤ c ∧ c < 2147483648) ∧ CO w0 L Z c α' u w')) : fin xs fr lo 104 0 (ax_ent [.ref 0, .int (jI m), .int (jI k), .ref 437] 5) [] w (Ret fun u w' => u = some (.int (jI 0)) ∧ ∃ c α' w1, S c α' ∧ (-2147483648 ≤ c ∧ c < 2147483648) ∧ CB w0 L Z α' w1 ∧ w' = w1.set 437 (21, [.long (jL c)])) := by
  refine fi_step (pc' := 1) m_La_characteristic rfl rfl ?_
  refine fi_step (pc' := 2) m_La_characteristic rfl rfl ?_
  refine fi_step (pc' := 3) m_La_characteristic rfl rfl ?_
  refine fi_step (pc' := 4) m_La_characteristic rfl rfl ?_
  refine fi_step (pc' := 5) m_La_characteristic rfl rfl ?_
  refine g_3 (p := 8) m_La_characteristic rfl inv_v (by decide) m_De_characteristic rfl rfl (by omega) (by omega) (Nat.le_of_ble_eq_true rfl) (Nat.le_of_ble_eq_true rfl) (C_rcvD hC _) hc (fun v w hP => ?_)
  obtain ⟨c, α', hS, hr, s', v', h1, h2, h3, rfl⟩ := hP
  have ho : w[437]? = some (21, [.long o]) := ((CW_out h1 (by omega) (by omega)).trans (CW_out hC (by omega) (by omega)).symm).trans hout
  refine s_i2l (p := 9) m_La_characteristic rfl rfl (by omega) (by omega) ?_
  refine fi_last m_La_characteristic rfl ho (by decide) (Nat.le_of_ble_eq_true rfl) ?_
  refine fi_step (pc' := 17) m_La_characteristic rfl rfl ?_
  refine fi_step (pc' := 18) m_La_characteristic rfl rfl ?_
  refine p_reti m_La_characteristic rfl rfl ?_
  exact ⟨rfl, c, α', w, hS, hr, ⟨s', v', h1, h2, h3⟩, rfl⟩
theorem la_characteristicT {m k : Int} (hC : CW w0 w s v L Z) (hfr : 1 ≤ fr) (hlo : 24 ≤ lo) (hc : fin xs (fr - 1) (lo - (5 + 19)) 105 0 (ax_ent [.ref 0, .int (jI m), .int (jI k)] 5) [] w (Thr 9 w)) : fin xs fr lo 104 0 (ax_ent [.ref 0, .int (jI m), .int (jI k), .ref 437] 5) [] w (Ret fun u w' => u = some (.int (jI 1)) ∧ w' = w ++ [(9, [])]) := by
  refine fi_step (pc' := 1) m_La_characteristic rfl rfl ?_
  refine fi_step (pc' := 2) m_La_characteristic rfl rfl ?_
  refine fi_step (pc' := 3) m_La_characteristic rfl rfl ?_
  refine fi_step (pc' := 4) m_La_characteristic rfl rfl ?_
  refine fi_step (pc' := 5) m_La_characteristic rfl rfl ?_
  refine h_call (as := [.ref 0, .int (jI m), .int (jI k)]) (rest := [.int (jI 0), .ref 437]) m_La_characteristic rfl inv_v (by decide) m_De_characteristic rfl rfl hfr hlo (Nat.le_of_ble_eq_true rfl) (Nat.le_of_ble_eq_true rfl) (C_rcvD hC _) hc rfl ?_
  refine fi_step (pc' := 15) m_La_characteristic rfl rfl ?_
  refine fi_step (pc' := 16) m_La_characteristic rfl rfl ?_
  refine p_reti m_La_characteristic rfl rfl ?_
  exact ⟨rfl, rfl⟩
theorem la_check {m : Int} {S : Int → AB → Prop} (hC : CW w0 w s v L Z) (hout : w[437]? = some (21, [.long o])) (hfr : 1 ≤ fr) (hlo : 22 ≤ lo) (hc : fin xs (fr - 1) (lo - (3 + 19)) 110 0 (ax_ent [.ref 0, .int (jI m)] 3) [] w (Ret fun u w' => ∃ c α', S c α' ∧ (-2147483648 ≤ c ∧ c < 2147483648) ∧ CO w0 L Z c α' u w')) : fin xs fr lo 109 0 (ax_ent [.ref 0, .int (jI m), .ref 437] 4) [] w (Ret fun u w' => u = some (.int (jI 0)) ∧ ∃ c α' w1, S c α' ∧ (-2147483648 ≤ c ∧ c < 2147483648) ∧ CB w0 L Z α' w1 ∧ w' = w1.set 437 (21, [.long (jL c)])) := by
  refine fi_step (pc' := 1) m_La_check rfl rfl ?_
  refine fi_step (pc' := 2) m_La_check rfl rfl ?_
  refine fi_step (pc' := 3) m_La_check rfl rfl ?_
  refine fi_step (pc' := 4) m_La_check rfl rfl ?_
  refine g_2 (p := 7) m_La_check rfl inv_v (by decide) m_De_check rfl rfl (by omega) (by omega) (Nat.le_of_ble_eq_true rfl) (Nat.le_of_ble_eq_true rfl) (C_rcvD hC _) hc (fun v w hP => ?_)
  obtain ⟨c, α', hS, hr, s', v', h1, h2, h3, rfl⟩ := hP
  have ho : w[437]? = some (21, [.long o]) := ((CW_out h1 (by omega) (by omega)).trans (CW_out hC (by omega) (by omega)).symm).trans hout
  refine s_i2l (p := 8) m_La_check rfl rfl (by omega) (by omega) ?_
  refine fi_last m_La_check rfl ho (by decide) (Nat.le_of_ble_eq_true rfl) ?_
  refine fi_step (pc' := 15) m_La_check rfl rfl ?_
  refine fi_step (pc' := 16) m_La_check rfl rfl ?_
  refine p_reti m_La_check rfl rfl ?_
  exact ⟨rfl, c, α', w, hS, hr, ⟨s', v', h1, h2, h3⟩, rfl⟩
theorem la_checkT {m : Int} (hC : CW w0 w s v L Z) (hfr : 1 ≤ fr) (hlo : 22 ≤ lo) (hc : fin xs (fr - 1) (lo - (3 + 19)) 110 0 (ax_ent [.ref 0, .int (jI m)] 3) [] w (Thr 9 w)) : fin xs fr lo 109 0 (ax_ent [.ref 0, .int (jI m), .ref 437] 4) [] w (Ret fun u w' => u = some (.int (jI 1)) ∧ w' = w ++ [(9, [])]) := by
  refine fi_step (pc' := 1) m_La_check rfl rfl ?_
  refine fi_step (pc' := 2) m_La_check rfl rfl ?_
  refine fi_step (pc' := 3) m_La_check rfl rfl ?_
  refine fi_step (pc' := 4) m_La_check rfl rfl ?_
  refine h_call (as := [.ref 0, .int (jI m)]) (rest := [.int (jI 0), .ref 437]) m_La_check rfl inv_v (by decide) m_De_check rfl rfl hfr hlo (Nat.le_of_ble_eq_true rfl) (Nat.le_of_ble_eq_true rfl) (C_rcvD hC _) hc rfl ?_
  refine fi_step (pc' := 13) m_La_check rfl rfl ?_
  refine fi_step (pc' := 14) m_La_check rfl rfl ?_
  refine p_reti m_La_check rfl rfl ?_
  exact ⟨rfl, rfl⟩
theorem la_at {m i j y : Int} (hC : CW w0 w s v L Z) (hout : w[437]? = some (21, [.long o])) (hfr : 1 ≤ fr) (hlo : 23 ≤ lo) (hc : fin xs (fr - 1) (lo - (4 + 19)) 30 0 (ax_ent [.ref 0, .int (jI m), .int (jI i), .int (jI j)] 4) [] w (Same (.long (jL y)) w)) : fin xs fr lo 29 0 (ax_ent [.ref 0, .int (jI m), .int (jI i), .int (jI j), .ref 437] 6) [] w (Ret fun u w' => u = some (.int (jI 0)) ∧ w' = w.set 437 (21, [.long (jL y)])) := by
  refine fi_step (pc' := 2) m_La_at rfl rfl ?_
  refine fi_step (pc' := 3) m_La_at rfl rfl ?_
  refine fi_step (pc' := 4) m_La_at rfl rfl ?_
  refine fi_step (pc' := 5) m_La_at rfl rfl ?_
  refine fi_step (pc' := 6) m_La_at rfl rfl ?_
  refine fi_step (pc' := 7) m_La_at rfl rfl ?_
  refine c_4 (p := 10) m_La_at rfl inv_v (by decide) m_De_at rfl rfl (by omega) (by omega) (Nat.le_of_ble_eq_true rfl) (Nat.le_of_ble_eq_true rfl) (C_rcvD hC _) hc ?_
  refine fi_last m_La_at rfl hout (by decide) (Nat.le_of_ble_eq_true rfl) ?_
  refine fi_step (pc' := 18) m_La_at rfl rfl ?_
  refine fi_step (pc' := 19) m_La_at rfl rfl ?_
  refine p_reti m_La_at rfl rfl ?_
  exact ⟨rfl, rfl⟩
theorem la_atT {m i j : Int} (hC : CW w0 w s v L Z) (hfr : 1 ≤ fr) (hlo : 23 ≤ lo) (hc : fin xs (fr - 1) (lo - (4 + 19)) 30 0 (ax_ent [.ref 0, .int (jI m), .int (jI i), .int (jI j)] 4) [] w (Thr 9 w)) : fin xs fr lo 29 0 (ax_ent [.ref 0, .int (jI m), .int (jI i), .int (jI j), .ref 437] 6) [] w (Ret fun u w' => u = some (.int (jI 1)) ∧ w' = w ++ [(9, [])]) := by
  refine fi_step (pc' := 2) m_La_at rfl rfl ?_
  refine fi_step (pc' := 3) m_La_at rfl rfl ?_
  refine fi_step (pc' := 4) m_La_at rfl rfl ?_
  refine fi_step (pc' := 5) m_La_at rfl rfl ?_
  refine fi_step (pc' := 6) m_La_at rfl rfl ?_
  refine fi_step (pc' := 7) m_La_at rfl rfl ?_
  refine h_call (as := [.ref 0, .int (jI m), .int (jI i), .int (jI j)]) (rest := [.int (jI 0), .ref 437]) m_La_at rfl inv_v (by decide) m_De_at rfl rfl hfr hlo (Nat.le_of_ble_eq_true rfl) (Nat.le_of_ble_eq_true rfl) (C_rcvD hC _) hc rfl ?_
  refine fi_step (pc' := 16) m_La_at rfl rfl ?_
  refine fi_step (pc' := 17) m_La_at rfl rfl ?_
  refine p_reti m_La_at rfl rfl ?_
  exact ⟨rfl, rfl⟩
theorem la_same {a b : Int} {E : Prop} (hC : CW w0 w s v L Z) (hout : w[437]? = some (21, [.long o])) (hfr : 1 ≤ fr) (hlo : 26 ≤ lo) (hc : fin xs (fr - 1) (lo - (7 + 19)) 108 0 (ax_ent [.ref 0, .int (jI a), .int (jI b)] 7) [] w (Ret fun u w' => w' = w ∧ ((E ∧ u = some (.int (jI 1))) ∨ (¬ E ∧ u = some (.int (jI 0)))))) : fin xs fr lo 107 0 (ax_ent [.ref 0, .int (jI a), .int (jI b), .ref 437] 5) [] w (Ret fun u w' => u = some (.int (jI 0)) ∧ ∃ c : Int, ((E ∧ c = 1) ∨ (¬ E ∧ c = 0)) ∧ w' = w.set 437 (21, [.long (jL c)])) := by
  refine fi_step (pc' := 1) m_La_same rfl rfl ?_
  refine fi_step (pc' := 2) m_La_same rfl rfl ?_
  refine fi_step (pc' := 3) m_La_same rfl rfl ?_
  refine fi_step (pc' := 4) m_La_same rfl rfl ?_
  refine fi_step (pc' := 5) m_La_same rfl rfl ?_
  refine g_3 (p := 8) m_La_same rfl inv_v (by decide) m_De_same rfl rfl (by omega) (by omega) (Nat.le_of_ble_eq_true rfl) (Nat.le_of_ble_eq_true rfl) (C_rcvD hC _) hc (fun v w hP => ?_)
  obtain ⟨rfl, ⟨hE, rfl⟩ | ⟨hE, rfl⟩⟩ := hP
  · refine s_if_eq (p := 11) m_La_same rfl rfl (by omega) (by omega) (fun hbr => False.elim (by omega)) (fun hbr => ?_)
    refine s_lconst (p := 12) (v := 1) m_La_same rfl rfl rfl ?_
    refine fi_step (pc' := 16) m_La_same rfl rfl ?_
    refine fi_last m_La_same rfl hout (by decide) (Nat.le_of_ble_eq_true rfl) ?_
    refine fi_step (pc' := 24) m_La_same rfl rfl ?_
    refine fi_step (pc' := 25) m_La_same rfl rfl ?_
    refine p_reti m_La_same rfl rfl ?_
    exact ⟨rfl, 1, Or.inl ⟨hE, rfl⟩, rfl⟩
  · refine s_if_eq (p := 11) m_La_same rfl rfl (by omega) (by omega) (fun hbr => ?_) (fun hbr => False.elim (by omega))
    refine s_lconst (p := 16) (v := 0) m_La_same rfl rfl rfl ?_
    refine fi_last m_La_same rfl hout (by decide) (Nat.le_of_ble_eq_true rfl) ?_
    refine fi_step (pc' := 24) m_La_same rfl rfl ?_
    refine fi_step (pc' := 25) m_La_same rfl rfl ?_
    refine p_reti m_La_same rfl rfl ?_
    exact ⟨rfl, 0, Or.inr ⟨hE, rfl⟩, rfl⟩
theorem la_sameT {a b : Int} (hC : CW w0 w s v L Z) (hfr : 1 ≤ fr) (hlo : 26 ≤ lo) (hc : fin xs (fr - 1) (lo - (7 + 19)) 108 0 (ax_ent [.ref 0, .int (jI a), .int (jI b)] 7) [] w (Thr 9 w)) : fin xs fr lo 107 0 (ax_ent [.ref 0, .int (jI a), .int (jI b), .ref 437] 5) [] w (Ret fun u w' => u = some (.int (jI 1)) ∧ w' = w ++ [(9, [])]) := by
  refine fi_step (pc' := 1) m_La_same rfl rfl ?_
  refine fi_step (pc' := 2) m_La_same rfl rfl ?_
  refine fi_step (pc' := 3) m_La_same rfl rfl ?_
  refine fi_step (pc' := 4) m_La_same rfl rfl ?_
  refine fi_step (pc' := 5) m_La_same rfl rfl ?_
  refine h_call (as := [.ref 0, .int (jI a), .int (jI b)]) (rest := [.int (jI 0), .ref 437]) m_La_same rfl inv_v (by decide) m_De_same rfl rfl hfr hlo (Nat.le_of_ble_eq_true rfl) (Nat.le_of_ble_eq_true rfl) (C_rcvD hC _) hc rfl ?_
  refine fi_step (pc' := 22) m_La_same rfl rfl ?_
  refine fi_step (pc' := 23) m_La_same rfl rfl ?_
  refine p_reti m_La_same rfl rfl ?_
  exact ⟨rfl, rfl⟩
theorem la_turn {to a : Int} {P : ax_W → Prop} (hC : CW w0 w s v L Z) (hfr : 1 ≤ fr) (hlo : 26 ≤ lo) (hc : fin xs (fr - 1) (lo - (7 + 19)) 45 0 (ax_ent [.ref 0, .int (jI to), .int (jI a)] 7) [] w (Ret fun u w' => u = none ∧ P w')) : fin xs fr lo 44 0 (ax_ent [.ref 0, .int (jI to), .int (jI a)] 4) [] w (Ret fun u w' => u = some (.int (jI 0)) ∧ P w') := by
  refine fi_step (pc' := 1) m_La_turn rfl rfl ?_
  refine fi_step (pc' := 2) m_La_turn rfl rfl ?_
  refine fi_step (pc' := 3) m_La_turn rfl rfl ?_
  refine g_3 (p := 6) m_La_turn rfl inv_v (by decide) m_De_turn rfl rfl (by omega) (by omega) (Nat.le_of_ble_eq_true rfl) (Nat.le_of_ble_eq_true rfl) (C_rcvD hC _) hc (fun v w hP => ?_)
  obtain ⟨rfl, hP⟩ := hP
  refine fi_step (pc' := 12) m_La_turn rfl rfl ?_
  refine fi_step (pc' := 13) m_La_turn rfl rfl ?_
  refine p_reti m_La_turn rfl rfl ?_
  exact ⟨rfl, hP⟩
theorem la_turnT9 {to a : Int} (hC : CW w0 w s v L Z) (hfr : 1 ≤ fr) (hlo : 26 ≤ lo) (hc : fin xs (fr - 1) (lo - (7 + 19)) 45 0 (ax_ent [.ref 0, .int (jI to), .int (jI a)] 7) [] w (Thr 9 w)) : fin xs fr lo 44 0 (ax_ent [.ref 0, .int (jI to), .int (jI a)] 4) [] w (Ret fun u w' => u = some (.int (jI 1)) ∧ w' = w ++ [(9, [])]) := by
  refine fi_step (pc' := 1) m_La_turn rfl rfl ?_
  refine fi_step (pc' := 2) m_La_turn rfl rfl ?_
  refine fi_step (pc' := 3) m_La_turn rfl rfl ?_
  refine h_call (as := [.ref 0, .int (jI to), .int (jI a)]) (rest := []) m_La_turn rfl inv_v (by decide) m_De_turn rfl rfl hfr hlo (Nat.le_of_ble_eq_true rfl) (Nat.le_of_ble_eq_true rfl) (C_rcvD hC _) hc rfl ?_
  refine fi_step (pc' := 10) m_La_turn rfl rfl ?_
  refine fi_step (pc' := 11) m_La_turn rfl rfl ?_
  refine p_reti m_La_turn rfl rfl ?_
  exact ⟨rfl, rfl⟩
theorem la_make {m r c : Int} {P : ax_W → Prop} (hC : CW w0 w s v L Z) (hfr : 1 ≤ fr) (hlo : 24 ≤ lo) (hc : fin xs (fr - 1) (lo - (5 + 19)) 20 0 (ax_ent [.ref 0, .int (jI m), .int (jI r), .int (jI c)] 5) [] w (Ret fun u w' => u = none ∧ P w')) : fin xs fr lo 19 0 (ax_ent [.ref 0, .int (jI m), .int (jI r), .int (jI c)] 5) [] w (Ret fun u w' => u = some (.int (jI 0)) ∧ P w') := by
  refine fi_step (pc' := 1) m_La_make rfl rfl ?_
  refine fi_step (pc' := 2) m_La_make rfl rfl ?_
  refine fi_step (pc' := 3) m_La_make rfl rfl ?_
  refine fi_step (pc' := 4) m_La_make rfl rfl ?_
  refine g_4 (p := 7) m_La_make rfl inv_v (by decide) m_De_make rfl rfl (by omega) (by omega) (Nat.le_of_ble_eq_true rfl) (Nat.le_of_ble_eq_true rfl) (C_rcvD hC _) hc (fun v w hP => ?_)
  obtain ⟨rfl, hP⟩ := hP
  refine fi_step (pc' := 18) m_La_make rfl rfl ?_
  refine fi_step (pc' := 19) m_La_make rfl rfl ?_
  refine p_reti m_La_make rfl rfl ?_
  exact ⟨rfl, hP⟩
theorem la_makeT9 {m r c : Int} (hC : CW w0 w s v L Z) (hfr : 1 ≤ fr) (hlo : 24 ≤ lo) (hc : fin xs (fr - 1) (lo - (5 + 19)) 20 0 (ax_ent [.ref 0, .int (jI m), .int (jI r), .int (jI c)] 5) [] w (Thr 9 w)) : fin xs fr lo 19 0 (ax_ent [.ref 0, .int (jI m), .int (jI r), .int (jI c)] 5) [] w (Ret fun u w' => u = some (.int (jI 1)) ∧ w' = w ++ [(9, [])]) := by
  refine fi_step (pc' := 1) m_La_make rfl rfl ?_
  refine fi_step (pc' := 2) m_La_make rfl rfl ?_
  refine fi_step (pc' := 3) m_La_make rfl rfl ?_
  refine fi_step (pc' := 4) m_La_make rfl rfl ?_
  refine h_call (as := [.ref 0, .int (jI m), .int (jI r), .int (jI c)]) (rest := []) m_La_make rfl inv_v (by decide) m_De_make rfl rfl hfr hlo (Nat.le_of_ble_eq_true rfl) (Nat.le_of_ble_eq_true rfl) (C_rcvD hC _) hc rfl ?_
  refine fi_step (pc' := 12) m_La_make rfl rfl ?_
  refine fi_step (pc' := 13) m_La_make rfl rfl ?_
  refine p_reti m_La_make rfl rfl ?_
  exact ⟨rfl, rfl⟩
theorem la_makeT10 {m r c : Int} (hC : CW w0 w s v L Z) (hfr : 1 ≤ fr) (hlo : 24 ≤ lo) (hc : fin xs (fr - 1) (lo - (5 + 19)) 20 0 (ax_ent [.ref 0, .int (jI m), .int (jI r), .int (jI c)] 5) [] w (Thr 10 w)) : fin xs fr lo 19 0 (ax_ent [.ref 0, .int (jI m), .int (jI r), .int (jI c)] 5) [] w (Ret fun u w' => u = some (.int (jI 2)) ∧ w' = w ++ [(10, [])]) := by
  refine fi_step (pc' := 1) m_La_make rfl rfl ?_
  refine fi_step (pc' := 2) m_La_make rfl rfl ?_
  refine fi_step (pc' := 3) m_La_make rfl rfl ?_
  refine fi_step (pc' := 4) m_La_make rfl rfl ?_
  refine h_call (as := [.ref 0, .int (jI m), .int (jI r), .int (jI c)]) (rest := []) m_La_make rfl inv_v (by decide) m_De_make rfl rfl hfr hlo (Nat.le_of_ble_eq_true rfl) (Nat.le_of_ble_eq_true rfl) (C_rcvD hC _) hc rfl ?_
  refine fi_step (pc' := 16) m_La_make rfl rfl ?_
  refine fi_step (pc' := 17) m_La_make rfl rfl ?_
  refine p_reti m_La_make rfl rfl ?_
  exact ⟨rfl, rfl⟩
theorem la_put {m i j : Int} {q : Int64} {P : ax_W → Prop} (hC : CW w0 w s v L Z) (hfr : 1 ≤ fr) (hlo : 26 ≤ lo) (hc : fin xs (fr - 1) (lo - (7 + 19)) 25 0 (ax_ent [.ref 0, .int (jI m), .int (jI i), .int (jI j), .long q] 7) [] w (Ret fun u w' => u = none ∧ P w')) : fin xs fr lo 24 0 (ax_ent [.ref 0, .int (jI m), .int (jI i), .int (jI j), .long q] 7) [] w (Ret fun u w' => u = some (.int (jI 0)) ∧ P w') := by
  refine fi_step (pc' := 1) m_La_put rfl rfl ?_
  refine fi_step (pc' := 2) m_La_put rfl rfl ?_
  refine fi_step (pc' := 3) m_La_put rfl rfl ?_
  refine fi_step (pc' := 4) m_La_put rfl rfl ?_
  refine fi_step (pc' := 6) m_La_put rfl rfl ?_
  refine g_5 (p := 9) m_La_put rfl inv_v (by decide) m_De_put rfl rfl (by omega) (by omega) (Nat.le_of_ble_eq_true rfl) (Nat.le_of_ble_eq_true rfl) (C_rcvD hC _) hc (fun v w hP => ?_)
  obtain ⟨rfl, hP⟩ := hP
  refine fi_step (pc' := 20) m_La_put rfl rfl ?_
  refine fi_step (pc' := 21) m_La_put rfl rfl ?_
  refine p_reti m_La_put rfl rfl ?_
  exact ⟨rfl, hP⟩
theorem la_putT9 {m i j : Int} {q : Int64} (hC : CW w0 w s v L Z) (hfr : 1 ≤ fr) (hlo : 26 ≤ lo) (hc : fin xs (fr - 1) (lo - (7 + 19)) 25 0 (ax_ent [.ref 0, .int (jI m), .int (jI i), .int (jI j), .long q] 7) [] w (Thr 9 w)) : fin xs fr lo 24 0 (ax_ent [.ref 0, .int (jI m), .int (jI i), .int (jI j), .long q] 7) [] w (Ret fun u w' => u = some (.int (jI 1)) ∧ w' = w ++ [(9, [])]) := by
  refine fi_step (pc' := 1) m_La_put rfl rfl ?_
  refine fi_step (pc' := 2) m_La_put rfl rfl ?_
  refine fi_step (pc' := 3) m_La_put rfl rfl ?_
  refine fi_step (pc' := 4) m_La_put rfl rfl ?_
  refine fi_step (pc' := 6) m_La_put rfl rfl ?_
  refine h_call (as := [.ref 0, .int (jI m), .int (jI i), .int (jI j), .long q]) (rest := []) m_La_put rfl inv_v (by decide) m_De_put rfl rfl hfr hlo (Nat.le_of_ble_eq_true rfl) (Nat.le_of_ble_eq_true rfl) (C_rcvD hC _) hc rfl ?_
  refine fi_step (pc' := 14) m_La_put rfl rfl ?_
  refine fi_step (pc' := 15) m_La_put rfl rfl ?_
  refine p_reti m_La_put rfl rfl ?_
  exact ⟨rfl, rfl⟩
theorem la_putT10 {m i j : Int} {q : Int64} (hC : CW w0 w s v L Z) (hfr : 1 ≤ fr) (hlo : 26 ≤ lo) (hc : fin xs (fr - 1) (lo - (7 + 19)) 25 0 (ax_ent [.ref 0, .int (jI m), .int (jI i), .int (jI j), .long q] 7) [] w (Thr 10 w)) : fin xs fr lo 24 0 (ax_ent [.ref 0, .int (jI m), .int (jI i), .int (jI j), .long q] 7) [] w (Ret fun u w' => u = some (.int (jI 2)) ∧ w' = w ++ [(10, [])]) := by
  refine fi_step (pc' := 1) m_La_put rfl rfl ?_
  refine fi_step (pc' := 2) m_La_put rfl rfl ?_
  refine fi_step (pc' := 3) m_La_put rfl rfl ?_
  refine fi_step (pc' := 4) m_La_put rfl rfl ?_
  refine fi_step (pc' := 6) m_La_put rfl rfl ?_
  refine h_call (as := [.ref 0, .int (jI m), .int (jI i), .int (jI j), .long q]) (rest := []) m_La_put rfl inv_v (by decide) m_De_put rfl rfl hfr hlo (Nat.le_of_ble_eq_true rfl) (Nat.le_of_ble_eq_true rfl) (C_rcvD hC _) hc rfl ?_
  refine fi_step (pc' := 18) m_La_put rfl rfl ?_
  refine fi_step (pc' := 19) m_La_put rfl rfl ?_
  refine p_reti m_La_put rfl rfl ?_
  exact ⟨rfl, rfl⟩
end LAW0
