/-! THE REFERENCE'S WORLD: one object (cell 425) and its eleven arrays behind it. Its state is s : Nat → Int → Int: s 0 its own numbers (0 thrown, 1 gridRows, 2 gridColumns, 3 formRows, 4 base, 5 printedSize),
    s 1 parts, s 2 lengths, s 3 minus, s 4 numbers, s 5 rows, s 6 columns, s 7 grid, s 8 picked, s 9 leads, s 10 printed, s 11 digits -/
def aI (n : Nat) (f : Int → Int) : List Value := (List.range n).map (fun (k : Nat) => .int (jI (f k)))
def aL (n : Nat) (f : Int → Int) : List Value := (List.range n).map (fun (k : Nat) => .long (jL (f k)))
def up1 (f : Int → Int) (i v : Int) : Int → Int := fun b => if b = i then v else f b
theorem aI_len (n : Nat) (f : Int → Int) : (aI n f).length = n := by simp [aI]
theorem aL_len (n : Nat) (f : Int → Int) : (aL n f).length = n := by simp [aL]
theorem aI_get {n : Nat} {f : Int → Int} {x : Int} (h0 : 0 ≤ x) (h1 : x < n) : (aI n f)[x.toNat]? = some (.int (jI (f x))) := by
  obtain ⟨k, rfl⟩ := Int.eq_ofNat_of_zero_le h0
  have hk : k < n := by omega
  simp [aI, hk]
theorem aL_get {n : Nat} {f : Int → Int} {x : Int} (h0 : 0 ≤ x) (h1 : x < n) : (aL n f)[x.toNat]? = some (.long (jL (f x))) := by
  obtain ⟨k, rfl⟩ := Int.eq_ofNat_of_zero_le h0
  have hk : k < n := by omega
  simp [aL, hk]
theorem aI_set {n : Nat} {f : Int → Int} {x v : Int} (h0 : 0 ≤ x) : (aI n f).set x.toNat (.int (jI v)) = aI n (up1 f x v) := by
  obtain ⟨k, rfl⟩ := Int.eq_ofNat_of_zero_le h0
  apply List.ext_getElem?
  intro i
  simp only [aI, List.getElem?_set, List.getElem?_map, List.length_map, List.length_range, Int.toNat_natCast]
  by_cases hi : k = i
  · subst hi
    by_cases hk : k < n <;> simp [hk, up1]
  · rw [if_neg hi]
    by_cases hk : i < n
    · simp [hk, up1, show ¬ (i : Int) = (k : Int) by omega]
    · simp [hk]
theorem aL_set {n : Nat} {f : Int → Int} {x v : Int} (h0 : 0 ≤ x) : (aL n f).set x.toNat (.long (jL v)) = aL n (up1 f x v) := by
  obtain ⟨k, rfl⟩ := Int.eq_ofNat_of_zero_le h0
  apply List.ext_getElem?
  intro i
  simp only [aL, List.getElem?_set, List.getElem?_map, List.length_map, List.length_range, Int.toNat_natCast]
  by_cases hi : k = i
  · subst hi
    by_cases hk : k < n <;> simp [hk, up1]
  · rw [if_neg hi]
    by_cases hk : i < n
    · simp [hk, up1, show ¬ (i : Int) = (k : Int) by omega]
    · simp [hk]
theorem aI_ext {n : Nat} {f g : Int → Int} (h : ∀ x, 0 ≤ x → x < n → f x = g x) : aI n f = aI n g := by
  apply List.map_congr_left
  intro k hk
  rw [h k (by omega) (by have := List.mem_range.mp hk; omega)]
theorem aL_ext {n : Nat} {f g : Int → Int} (h : ∀ x, 0 ≤ x → x < n → f x = g x) : aL n f = aL n g := by
  apply List.map_congr_left
  intro k hk
  rw [h k (by omega) (by have := List.mem_range.mp hk; omega)]
abbrev mo_S : Type := Nat → Int → Int
def mo_fs (s : mo_S) : List Value := [.ref 426, .ref 427, .ref 428, .int (jI (s 0 0)), .ref 429, .ref 430, .ref 431, .ref 432, .int (jI (s 0 1)), .int (jI (s 0 2)), .ref 433, .int (jI (s 0 3)), .ref 434, .int (jI (s 0 4)), .ref 435, .int (jI (s 0 5)), .ref 436]
def mc (s : mo_S) : Nat → Nat × List Value
  | 0 => (8, mo_fs s)
  | 1 => (20, aI 38780 (s 1))
  | 2 => (20, aI 277 (s 2))
  | 3 => (23, aI 277 (s 3))
  | 4 => (21, aL 216 (s 4))
  | 5 => (20, aI 6 (s 5))
  | 6 => (20, aI 6 (s 6))
  | 7 => (21, aL 72 (s 7))
  | 8 => (20, aI 6 (s 8))
  | 9 => (20, aI 6 (s 9))
  | 10 => (20, aI 1200 (s 10))
  | _ => (20, aI 600 (s 11))
/-- w is w0 but for the reference's cells, which hold s -/
def RW (w0 w : ax_W) (s : mo_S) : Prop := w.length = w0.length ∧ (∀ j, (j < 425 ∨ 436 < j) → w[j]? = w0[j]?) ∧ ∀ k, k < 12 → w[k + 425]? = some (mc s k)
def up (s : mo_S) (k : Nat) (i v : Int) : mo_S := fun a => if a = k then up1 (s a) i v else s a
theorem up_same (s : mo_S) (k : Nat) (i v : Int) : up s k i v k = up1 (s k) i v := by simp [up]
theorem up_ne (s : mo_S) {k j : Nat} (h : j ≠ k) (i v : Int) : up s k i v j = s j := by simp [up, h]
theorem up1_same (f : Int → Int) (i v : Int) : up1 f i v i = v := by simp [up1]
theorem up1_ne (f : Int → Int) {i j : Int} (h : ¬ j = i) (v : Int) : up1 f i v j = f j := by simp [up1, h]
theorem mc_congr {s s' : mo_S} {j : Nat} (hj : j < 12) (h : s' j = s j) : mc s' j = mc s j := by
  have : j = 0 ∨ j = 1 ∨ j = 2 ∨ j = 3 ∨ j = 4 ∨ j = 5 ∨ j = 6 ∨ j = 7 ∨ j = 8 ∨ j = 9 ∨ j = 10 ∨ j = 11 := by omega
  rcases this with rfl | rfl | rfl | rfl | rfl | rfl | rfl | rfl | rfl | rfl | rfl | rfl <;> simp only [mc, mo_fs, h]
theorem RW_get {w0 w : ax_W} {s : mo_S} (h : RW w0 w s) (k : Nat) (hk : k < 12) : w[k + 425]? = some (mc s k) := h.2.2 k hk
theorem RW_set {w0 w : ax_W} {s s' : mo_S} (h : RW w0 w s) (k : Nat) (hk : k < 12) (hs : ∀ j, j ≠ k → s' j = s j) {q : Nat × List Value} (hq : q = mc s' k) : RW w0 (w.set (k + 425) q) s' := by
  subst hq
  have hl : k + 425 < w.length := (List.getElem?_eq_some_iff.mp (h.2.2 k hk)).1
  refine ⟨by simp [h.1], fun j hj => ?_, fun j hj => ?_⟩
  · rw [List.getElem?_set_ne (by omega)]; exact h.2.1 j hj
  · by_cases e : j = k
    · subst e; simp [hl]
    · rw [List.getElem?_set_ne (by omega), h.2.2 j hj, mc_congr hj (hs j e)]
theorem RW_up {w0 w : ax_W} {s : mo_S} (h : RW w0 w s) (k : Nat) (hk : k < 12) (i v : Int) {q : Nat × List Value} (hq : q = mc (up s k i v) k) : RW w0 (w.set (k + 425) q) (up s k i v) :=
  RW_set h k hk (fun j hj => up_ne s hj i v) hq
section MO
variable {xs : List Int32} {fr lo z pc p l u1 u2 u3 idx : Nat} {ls : List (Option Value)} {st : List Value} {w0 w : ax_W} {s : mo_S} {Q : Outcome → ax_W → Prop} {M : ax_M} {x : Int}
theorem r_get {k : Nat} {v : Value} (hM : ax_prog[z]? = some M) (he : M.1[pc]? = some (some (.getfield idx, l, 8, k, u3))) (hp : pc + l = p) (hw : RW w0 w s) (hv : (mo_fs s)[k]? = some v) (kk : fin xs fr lo z p ls (v :: st) w Q) : fin xs fr lo z pc ls (.ref 425 :: st) w Q := by
  subst hp; exact fi_get hM he (RW_get hw 0 (by decide)) hv kk
theorem r_put {k : Nat} (i : Int) {v : Int} (hM : ax_prog[z]? = some M) (he : M.1[pc]? = some (some (.putfield idx, l, 8, k, u3))) (hp : pc + l = p) (hw : RW w0 w s) (hk : (mo_fs s).set k (.int (jI v)) = mo_fs (up s 0 i v)) (hf : ax_kinds[8]?.bind (fun ks => ks[k]?) = some 0) (kk : ∀ w1, RW w0 w1 (up s 0 i v) → fin xs fr lo z p ls st w1 Q) : fin xs fr lo z pc ls (.int (jI v) :: .ref 425 :: st) w Q := by
  subst hp
  have h8 : ax_kinds[8]? = some [2, 2, 2, 0, 2, 2, 2, 2, 0, 0, 2, 0, 2, 0, 2, 0, 2] := rfl
  rw [h8] at hf
  have hkl : k < (mo_fs s).length := (List.getElem?_eq_some_iff.mp hf).1
  exact fi_put hM he h8 hf (i := 425) rfl (RW_get hw 0 (by decide)) hkl (kk _ (RW_up hw 0 (by decide) i v (by rw [hk]; rfl)))
theorem r_ldI {k n : Nat} (hM : ax_prog[z]? = some M) (he : M.1[pc]? = some (some (.iaload, l, u1, u2, u3))) (hp : pc + l = p) (hw : RW w0 w s) (hk : k < 12) (hc : mc s k = (20, aI n (s k))) (hn : n < 100000) (h0 : 0 ≤ x) (h1 : x < n) (kk : fin xs fr lo z p ls (.int (jI (s k x)) :: st) w Q) : fin xs fr lo z pc ls (.int (jI x) :: .ref (k + 425) :: st) w Q := by
  subst hp
  exact fi_iald hM he ((RW_get hw k hk).trans (by rw [hc])) (jI_nn h0 (by omega)) (by rw [jI_nat h0 (by omega)]; exact aI_get h0 h1) kk
theorem r_ldB {k n : Nat} (hM : ax_prog[z]? = some M) (he : M.1[pc]? = some (some (.baload, l, u1, u2, u3))) (hp : pc + l = p) (hw : RW w0 w s) (hk : k < 12) (hc : mc s k = (23, aI n (s k))) (hn : n < 100000) (h0 : 0 ≤ x) (h1 : x < n) (kk : fin xs fr lo z p ls (.int (jI (s k x)) :: st) w Q) : fin xs fr lo z pc ls (.int (jI x) :: .ref (k + 425) :: st) w Q := by
  subst hp
  exact fi_zald hM he ((RW_get hw k hk).trans (by rw [hc])) (jI_nn h0 (by omega)) (by rw [jI_nat h0 (by omega)]; exact aI_get h0 h1) kk
theorem r_ldL {k n : Nat} (hM : ax_prog[z]? = some M) (he : M.1[pc]? = some (some (.laload, l, u1, u2, u3))) (hp : pc + l = p) (hw : RW w0 w s) (hk : k < 12) (hc : mc s k = (21, aL n (s k))) (hn : n < 100000) (h0 : 0 ≤ x) (h1 : x < n) (kk : fin xs fr lo z p ls (.long (jL (s k x)) :: st) w Q) : fin xs fr lo z pc ls (.int (jI x) :: .ref (k + 425) :: st) w Q := by
  subst hp
  exact fi_lald hM he ((RW_get hw k hk).trans (by rw [hc])) (jI_nn h0 (by omega)) (by rw [jI_nat h0 (by omega)]; exact aL_get h0 h1) kk
theorem r_stI {k n : Nat} {v : Int} (hM : ax_prog[z]? = some M) (he : M.1[pc]? = some (some (.iastore, l, u1, u2, u3))) (hp : pc + l = p) (hw : RW w0 w s) (hk : k < 12) (hc : ∀ s', mc s' k = (20, aI n (s' k))) (hn : n < 100000) (h0 : 0 ≤ x) (h1 : x < n) (kk : ∀ w1, RW w0 w1 (up s k x v) → fin xs fr lo z p ls st w1 Q) : fin xs fr lo z pc ls (.int (jI v) :: .int (jI x) :: .ref (k + 425) :: st) w Q := by
  subst hp
  refine fi_iast hM he ((RW_get hw k hk).trans (by rw [hc])) (jI_nn h0 (by omega)) (by rw [jI_nat h0 (by omega), aI_len]; omega) ?_
  rw [jI_nat h0 (by omega), aI_set h0]
  exact kk _ (RW_up hw k hk x v (by rw [hc, up_same]))
theorem r_stB {k n : Nat} {v : Int} (hM : ax_prog[z]? = some M) (he : M.1[pc]? = some (some (.bastore, l, u1, u2, u3))) (hp : pc + l = p) (hw : RW w0 w s) (hk : k < 12) (hc : ∀ s', mc s' k = (23, aI n (s' k))) (hn : n < 100000) (h0 : 0 ≤ x) (h1 : x < n) (v0 : 0 ≤ v) (v1 : v ≤ 1) (kk : ∀ w1, RW w0 w1 (up s k x v) → fin xs fr lo z p ls st w1 Q) : fin xs fr lo z pc ls (.int (jI v) :: .int (jI x) :: .ref (k + 425) :: st) w Q := by
  subst hp
  refine fi_zast hM he ((RW_get hw k hk).trans (by rw [hc])) (jI_nn h0 (by omega)) (by rw [jI_nat h0 (by omega), aI_len]; omega) (jI_nn v0 (by omega)) (by
    rw [show (1 : Int32) = jI 1 from rfl, jI_lt (by omega) (by omega) (by omega) (by omega)]; omega) ?_
  rw [jI_nat h0 (by omega), aI_set h0]
  exact kk _ (RW_up hw k hk x v (by rw [hc, up_same]))
theorem r_stL {k n : Nat} {v : Int} (hM : ax_prog[z]? = some M) (he : M.1[pc]? = some (some (.lastore, l, u1, u2, u3))) (hp : pc + l = p) (hw : RW w0 w s) (hk : k < 12) (hc : ∀ s', mc s' k = (21, aL n (s' k))) (hn : n < 100000) (h0 : 0 ≤ x) (h1 : x < n) (kk : ∀ w1, RW w0 w1 (up s k x v) → fin xs fr lo z p ls st w1 Q) : fin xs fr lo z pc ls (.long (jL v) :: .int (jI x) :: .ref (k + 425) :: st) w Q := by
  subst hp
  refine fi_last hM he ((RW_get hw k hk).trans (by rw [hc])) (jI_nn h0 (by omega)) (by rw [jI_nat h0 (by omega), aL_len]; omega) ?_
  rw [jI_nat h0 (by omega), aL_set h0]
  exact kk _ (RW_up hw k hk x v (by rw [hc, up_same]))
end MO
theorem r_put0 (s : mo_S) (v : Int) : (mo_fs s).set 3 (.int (jI v)) = mo_fs (up s 0 0 v) := by simp [mo_fs, up, up1]
theorem r_put1 (s : mo_S) (v : Int) : (mo_fs s).set 8 (.int (jI v)) = mo_fs (up s 0 1 v) := by simp [mo_fs, up, up1]
theorem r_put2 (s : mo_S) (v : Int) : (mo_fs s).set 9 (.int (jI v)) = mo_fs (up s 0 2 v) := by simp [mo_fs, up, up1]
theorem r_put3 (s : mo_S) (v : Int) : (mo_fs s).set 11 (.int (jI v)) = mo_fs (up s 0 3 v) := by simp [mo_fs, up, up1]
theorem r_put4 (s : mo_S) (v : Int) : (mo_fs s).set 13 (.int (jI v)) = mo_fs (up s 0 4 v) := by simp [mo_fs, up, up1]
theorem r_put5 (s : mo_S) (v : Int) : (mo_fs s).set 15 (.int (jI v)) = mo_fs (up s 0 5 v) := by simp [mo_fs, up, up1]
theorem RW_rcv {w0 w : ax_W} {s : mo_S} (h : RW w0 w s) (as : List Value) : ax_rcv 9 (.ref 425 :: as) w = true := by
  simp only [ax_rcv, RW_get h 0 (by decide), mc, beq_self_eq_true]
