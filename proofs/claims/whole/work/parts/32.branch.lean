/-! branches, on whole numbers (written by wip/gen/branches.py) -/
theorem cmp_eq_j {a b : Int} (a0 : -2147483648 ≤ a) (a1 : a < 2147483648) (b0 : -2147483648 ≤ b) (b1 : b < 2147483648) : ax_cmp .eq (jI a) (jI b) = true ↔ a = b := cmp_eq.trans (jI_inj a0 a1 b0 b1)
theorem cmp_ne_j {a b : Int} (a0 : -2147483648 ≤ a) (a1 : a < 2147483648) (b0 : -2147483648 ≤ b) (b1 : b < 2147483648) : ax_cmp .ne (jI a) (jI b) = true ↔ ¬ a = b := cmp_ne.trans (not_congr (jI_inj a0 a1 b0 b1))
theorem cmp_lt_j {a b : Int} (a0 : -2147483648 ≤ a) (a1 : a < 2147483648) (b0 : -2147483648 ≤ b) (b1 : b < 2147483648) : ax_cmp .lt (jI a) (jI b) = true ↔ a < b := cmp_lt.trans (jI_lt a0 a1 b0 b1)
theorem cmp_ge_j {a b : Int} (a0 : -2147483648 ≤ a) (a1 : a < 2147483648) (b0 : -2147483648 ≤ b) (b1 : b < 2147483648) : ax_cmp .ge (jI a) (jI b) = true ↔ b ≤ a := cmp_ge.trans (jI_le b0 b1 a0 a1)
theorem cmp_gt_j {a b : Int} (a0 : -2147483648 ≤ a) (a1 : a < 2147483648) (b0 : -2147483648 ≤ b) (b1 : b < 2147483648) : ax_cmp .gt (jI a) (jI b) = true ↔ b < a := cmp_gt.trans (jI_lt b0 b1 a0 a1)
theorem cmp_le_j {a b : Int} (a0 : -2147483648 ≤ a) (a1 : a < 2147483648) (b0 : -2147483648 ≤ b) (b1 : b < 2147483648) : ax_cmp .le (jI a) (jI b) = true ↔ a ≤ b := cmp_le.trans (jI_le a0 a1 b0 b1)
theorem lgc_lt {a b : Int} (a0 : -9223372036854775808 ≤ a) (a1 : a < 9223372036854775808) (b0 : -9223372036854775808 ≤ b) (b1 : b < 9223372036854775808) : lg_cmp (jL a) (jL b) < 0 ↔ a < b := by
  unfold lg_cmp
  split
  · rename_i h; have := (jL_lt b0 b1 a0 a1).mp h; constructor
    · intro q; exact absurd q (by decide)
    · intro q; omega
  · rename_i h; have h' : ¬ b < a := fun q => h ((jL_lt b0 b1 a0 a1).mpr q)
    split
    · rename_i g; have := (jL_inj a0 a1 b0 b1).mp g; constructor
      · intro q; exact absurd q (by decide)
      · intro q; omega
    · rename_i g; have g' : ¬ a = b := fun q => g (by rw [q]); constructor
      · intro _; omega
      · intro _; decide
theorem lgc_eq {a b : Int} (a0 : -9223372036854775808 ≤ a) (a1 : a < 9223372036854775808) (b0 : -9223372036854775808 ≤ b) (b1 : b < 9223372036854775808) : lg_cmp (jL a) (jL b) = 0 ↔ a = b := by
  unfold lg_cmp
  split
  · rename_i h; have := (jL_lt b0 b1 a0 a1).mp h; constructor
    · intro q; exact absurd q (by decide)
    · intro q; omega
  · split
    · rename_i g; have := (jL_inj a0 a1 b0 b1).mp g; exact ⟨fun _ => this, fun _ => rfl⟩
    · rename_i g; have g' : ¬ a = b := fun q => g (by rw [q]); constructor
      · intro q; exact absurd q (by decide)
      · intro q; exact absurd q g'
theorem lgc_gt {a b : Int} (a0 : -9223372036854775808 ≤ a) (a1 : a < 9223372036854775808) (b0 : -9223372036854775808 ≤ b) (b1 : b < 9223372036854775808) : 0 < lg_cmp (jL a) (jL b) ↔ b < a := by
  unfold lg_cmp
  split
  · rename_i h; exact ⟨fun _ => (jL_lt b0 b1 a0 a1).mp h, fun _ => by decide⟩
  · rename_i h; have h' : ¬ b < a := fun q => h ((jL_lt b0 b1 a0 a1).mpr q)
    split
    · constructor
      · intro q; exact absurd q (by decide)
      · intro q; exact absurd q h'
    · constructor
      · intro q; exact absurd q (by decide)
      · intro q; exact absurd q h'
theorem lgc_ge {a b : Int} (a0 : -9223372036854775808 ≤ a) (a1 : a < 9223372036854775808) (b0 : -9223372036854775808 ≤ b) (b1 : b < 9223372036854775808) : 0 ≤ lg_cmp (jL a) (jL b) ↔ b ≤ a := by
  rw [← Int32.not_lt, lgc_lt a0 a1 b0 b1]; omega
theorem lgc_le {a b : Int} (a0 : -9223372036854775808 ≤ a) (a1 : a < 9223372036854775808) (b0 : -9223372036854775808 ≤ b) (b1 : b < 9223372036854775808) : lg_cmp (jL a) (jL b) ≤ 0 ↔ a ≤ b := by
  rw [← Int32.not_lt, lgc_gt a0 a1 b0 b1]; omega
theorem cmp_eq_l {a b : Int} (a0 : -9223372036854775808 ≤ a) (a1 : a < 9223372036854775808) (b0 : -9223372036854775808 ≤ b) (b1 : b < 9223372036854775808) : ax_cmp .eq (lg_cmp (jL a) (jL b)) 0 = true ↔ a = b := cmp_eq.trans (lgc_eq a0 a1 b0 b1)
theorem cmp_ne_l {a b : Int} (a0 : -9223372036854775808 ≤ a) (a1 : a < 9223372036854775808) (b0 : -9223372036854775808 ≤ b) (b1 : b < 9223372036854775808) : ax_cmp .ne (lg_cmp (jL a) (jL b)) 0 = true ↔ ¬ a = b := cmp_ne.trans (not_congr (lgc_eq a0 a1 b0 b1))
theorem cmp_lt_l {a b : Int} (a0 : -9223372036854775808 ≤ a) (a1 : a < 9223372036854775808) (b0 : -9223372036854775808 ≤ b) (b1 : b < 9223372036854775808) : ax_cmp .lt (lg_cmp (jL a) (jL b)) 0 = true ↔ a < b := cmp_lt.trans (lgc_lt a0 a1 b0 b1)
theorem cmp_ge_l {a b : Int} (a0 : -9223372036854775808 ≤ a) (a1 : a < 9223372036854775808) (b0 : -9223372036854775808 ≤ b) (b1 : b < 9223372036854775808) : ax_cmp .ge (lg_cmp (jL a) (jL b)) 0 = true ↔ b ≤ a := cmp_ge.trans (lgc_ge a0 a1 b0 b1)
theorem cmp_gt_l {a b : Int} (a0 : -9223372036854775808 ≤ a) (a1 : a < 9223372036854775808) (b0 : -9223372036854775808 ≤ b) (b1 : b < 9223372036854775808) : ax_cmp .gt (lg_cmp (jL a) (jL b)) 0 = true ↔ b < a := cmp_gt.trans (lgc_gt a0 a1 b0 b1)
theorem cmp_le_l {a b : Int} (a0 : -9223372036854775808 ≤ a) (a1 : a < 9223372036854775808) (b0 : -9223372036854775808 ≤ b) (b1 : b < 9223372036854775808) : ax_cmp .le (lg_cmp (jL a) (jL b)) 0 = true ↔ a ≤ b := cmp_le.trans (lgc_le a0 a1 b0 b1)
section BR
variable {xs : List Int32} {fr lo z pc p q t l l1 u1 u2 u3 v1 v2 v3 : Nat} {d : Int} {ls : List (Option Value)} {st : List Value} {w : ax_W} {Q : Outcome → ax_W → Prop} {M : ax_M} {a b : Int}
theorem s_if_eq (hM : ax_prog[z]? = some M) (he : M.1[pc]? = some (some (.ifCond .eq d, l, t, u2, u3))) (hp : pc + l = p) (a0 : -2147483648 ≤ a) (a1 : a < 2147483648) (h1 : a = 0 → fin xs fr lo z t ls st w Q) (h2 : ¬ a = 0 → fin xs fr lo z p ls st w Q) : fin xs fr lo z pc ls (.int (jI a) :: st) w Q := by
  subst hp
  refine fi_step hM he (w1 := w) (pc' := if ax_cmp .eq (jI a) (jI 0) then t else pc + l) rfl ?_
  by_cases hc : a = 0
  · rw [if_pos ((cmp_eq_j a0 a1 (b := 0) (by decide) (by decide)).mpr hc)]; exact h1 hc
  · rw [if_neg (fun e => hc ((cmp_eq_j a0 a1 (b := 0) (by decide) (by decide)).mp e))]; exact h2 (hc)
theorem s_ic_eq (hM : ax_prog[z]? = some M) (he : M.1[pc]? = some (some (.if_icmp .eq d, l, t, u2, u3))) (hp : pc + l = p) (a0 : -2147483648 ≤ a) (a1 : a < 2147483648) (b0 : -2147483648 ≤ b) (b1 : b < 2147483648) (h1 : a = b → fin xs fr lo z t ls st w Q) (h2 : ¬ a = b → fin xs fr lo z p ls st w Q) : fin xs fr lo z pc ls (.int (jI b) :: .int (jI a) :: st) w Q := by
  subst hp
  refine fi_step hM he (w1 := w) (pc' := if ax_cmp .eq (jI a) (jI b) then t else pc + l) rfl ?_
  by_cases hc : a = b
  · rw [if_pos ((cmp_eq_j a0 a1 b0 b1).mpr hc)]; exact h1 hc
  · rw [if_neg (fun e => hc ((cmp_eq_j a0 a1 b0 b1).mp e))]; exact h2 (hc)
theorem s_lc_eq (hM : ax_prog[z]? = some M) (he0 : M.1[pc]? = some (some (.lcmp, l1, v1, v2, v3))) (hq : pc + l1 = q) (he : M.1[q]? = some (some (.ifCond .eq d, l, t, u2, u3))) (hp : q + l = p) (a0 : -9223372036854775808 ≤ a) (a1 : a < 9223372036854775808) (b0 : -9223372036854775808 ≤ b) (b1 : b < 9223372036854775808) (h1 : a = b → fin xs fr lo z t ls st w Q) (h2 : ¬ a = b → fin xs fr lo z p ls st w Q) : fin xs fr lo z pc ls (.long (jL b) :: .long (jL a) :: st) w Q := by
  subst hq; subst hp
  refine fi_step hM he0 (w1 := w) rfl ?_
  refine fi_step hM he (w1 := w) (pc' := if ax_cmp .eq (lg_cmp (jL a) (jL b)) 0 then t else pc + l1 + l) rfl ?_
  by_cases hc : a = b
  · rw [if_pos ((cmp_eq_l a0 a1 b0 b1).mpr hc)]; exact h1 hc
  · rw [if_neg (fun e => hc ((cmp_eq_l a0 a1 b0 b1).mp e))]; exact h2 (hc)
theorem s_if_ne (hM : ax_prog[z]? = some M) (he : M.1[pc]? = some (some (.ifCond .ne d, l, t, u2, u3))) (hp : pc + l = p) (a0 : -2147483648 ≤ a) (a1 : a < 2147483648) (h1 : ¬ a = 0 → fin xs fr lo z t ls st w Q) (h2 : a = 0 → fin xs fr lo z p ls st w Q) : fin xs fr lo z pc ls (.int (jI a) :: st) w Q := by
  subst hp
  refine fi_step hM he (w1 := w) (pc' := if ax_cmp .ne (jI a) (jI 0) then t else pc + l) rfl ?_
  by_cases hc : ¬ a = 0
  · rw [if_pos ((cmp_ne_j a0 a1 (b := 0) (by decide) (by decide)).mpr hc)]; exact h1 hc
  · rw [if_neg (fun e => hc ((cmp_ne_j a0 a1 (b := 0) (by decide) (by decide)).mp e))]; exact h2 (Decidable.not_not.mp hc)
theorem s_ic_ne (hM : ax_prog[z]? = some M) (he : M.1[pc]? = some (some (.if_icmp .ne d, l, t, u2, u3))) (hp : pc + l = p) (a0 : -2147483648 ≤ a) (a1 : a < 2147483648) (b0 : -2147483648 ≤ b) (b1 : b < 2147483648) (h1 : ¬ a = b → fin xs fr lo z t ls st w Q) (h2 : a = b → fin xs fr lo z p ls st w Q) : fin xs fr lo z pc ls (.int (jI b) :: .int (jI a) :: st) w Q := by
  subst hp
  refine fi_step hM he (w1 := w) (pc' := if ax_cmp .ne (jI a) (jI b) then t else pc + l) rfl ?_
  by_cases hc : ¬ a = b
  · rw [if_pos ((cmp_ne_j a0 a1 b0 b1).mpr hc)]; exact h1 hc
  · rw [if_neg (fun e => hc ((cmp_ne_j a0 a1 b0 b1).mp e))]; exact h2 (Decidable.not_not.mp hc)
theorem s_lc_ne (hM : ax_prog[z]? = some M) (he0 : M.1[pc]? = some (some (.lcmp, l1, v1, v2, v3))) (hq : pc + l1 = q) (he : M.1[q]? = some (some (.ifCond .ne d, l, t, u2, u3))) (hp : q + l = p) (a0 : -9223372036854775808 ≤ a) (a1 : a < 9223372036854775808) (b0 : -9223372036854775808 ≤ b) (b1 : b < 9223372036854775808) (h1 : ¬ a = b → fin xs fr lo z t ls st w Q) (h2 : a = b → fin xs fr lo z p ls st w Q) : fin xs fr lo z pc ls (.long (jL b) :: .long (jL a) :: st) w Q := by
  subst hq; subst hp
  refine fi_step hM he0 (w1 := w) rfl ?_
  refine fi_step hM he (w1 := w) (pc' := if ax_cmp .ne (lg_cmp (jL a) (jL b)) 0 then t else pc + l1 + l) rfl ?_
  by_cases hc : ¬ a = b
  · rw [if_pos ((cmp_ne_l a0 a1 b0 b1).mpr hc)]; exact h1 hc
  · rw [if_neg (fun e => hc ((cmp_ne_l a0 a1 b0 b1).mp e))]; exact h2 (Decidable.not_not.mp hc)
theorem s_if_lt (hM : ax_prog[z]? = some M) (he : M.1[pc]? = some (some (.ifCond .lt d, l, t, u2, u3))) (hp : pc + l = p) (a0 : -2147483648 ≤ a) (a1 : a < 2147483648) (h1 : a < 0 → fin xs fr lo z t ls st w Q) (h2 : 0 ≤ a → fin xs fr lo z p ls st w Q) : fin xs fr lo z pc ls (.int (jI a) :: st) w Q := by
  subst hp
  refine fi_step hM he (w1 := w) (pc' := if ax_cmp .lt (jI a) (jI 0) then t else pc + l) rfl ?_
  by_cases hc : a < 0
  · rw [if_pos ((cmp_lt_j a0 a1 (b := 0) (by decide) (by decide)).mpr hc)]; exact h1 hc
  · rw [if_neg (fun e => hc ((cmp_lt_j a0 a1 (b := 0) (by decide) (by decide)).mp e))]; exact h2 (by omega)
theorem s_ic_lt (hM : ax_prog[z]? = some M) (he : M.1[pc]? = some (some (.if_icmp .lt d, l, t, u2, u3))) (hp : pc + l = p) (a0 : -2147483648 ≤ a) (a1 : a < 2147483648) (b0 : -2147483648 ≤ b) (b1 : b < 2147483648) (h1 : a < b → fin xs fr lo z t ls st w Q) (h2 : b ≤ a → fin xs fr lo z p ls st w Q) : fin xs fr lo z pc ls (.int (jI b) :: .int (jI a) :: st) w Q := by
  subst hp
  refine fi_step hM he (w1 := w) (pc' := if ax_cmp .lt (jI a) (jI b) then t else pc + l) rfl ?_
  by_cases hc : a < b
  · rw [if_pos ((cmp_lt_j a0 a1 b0 b1).mpr hc)]; exact h1 hc
  · rw [if_neg (fun e => hc ((cmp_lt_j a0 a1 b0 b1).mp e))]; exact h2 (by omega)
theorem s_lc_lt (hM : ax_prog[z]? = some M) (he0 : M.1[pc]? = some (some (.lcmp, l1, v1, v2, v3))) (hq : pc + l1 = q) (he : M.1[q]? = some (some (.ifCond .lt d, l, t, u2, u3))) (hp : q + l = p) (a0 : -9223372036854775808 ≤ a) (a1 : a < 9223372036854775808) (b0 : -9223372036854775808 ≤ b) (b1 : b < 9223372036854775808) (h1 : a < b → fin xs fr lo z t ls st w Q) (h2 : b ≤ a → fin xs fr lo z p ls st w Q) : fin xs fr lo z pc ls (.long (jL b) :: .long (jL a) :: st) w Q := by
  subst hq; subst hp
  refine fi_step hM he0 (w1 := w) rfl ?_
  refine fi_step hM he (w1 := w) (pc' := if ax_cmp .lt (lg_cmp (jL a) (jL b)) 0 then t else pc + l1 + l) rfl ?_
  by_cases hc : a < b
  · rw [if_pos ((cmp_lt_l a0 a1 b0 b1).mpr hc)]; exact h1 hc
  · rw [if_neg (fun e => hc ((cmp_lt_l a0 a1 b0 b1).mp e))]; exact h2 (by omega)
theorem s_if_ge (hM : ax_prog[z]? = some M) (he : M.1[pc]? = some (some (.ifCond .ge d, l, t, u2, u3))) (hp : pc + l = p) (a0 : -2147483648 ≤ a) (a1 : a < 2147483648) (h1 : 0 ≤ a → fin xs fr lo z t ls st w Q) (h2 : a < 0 → fin xs fr lo z p ls st w Q) : fin xs fr lo z pc ls (.int (jI a) :: st) w Q := by
  subst hp
  refine fi_step hM he (w1 := w) (pc' := if ax_cmp .ge (jI a) (jI 0) then t else pc + l) rfl ?_
  by_cases hc : 0 ≤ a
  · rw [if_pos ((cmp_ge_j a0 a1 (b := 0) (by decide) (by decide)).mpr hc)]; exact h1 hc
  · rw [if_neg (fun e => hc ((cmp_ge_j a0 a1 (b := 0) (by decide) (by decide)).mp e))]; exact h2 (by omega)
theorem s_ic_ge (hM : ax_prog[z]? = some M) (he : M.1[pc]? = some (some (.if_icmp .ge d, l, t, u2, u3))) (hp : pc + l = p) (a0 : -2147483648 ≤ a) (a1 : a < 2147483648) (b0 : -2147483648 ≤ b) (b1 : b < 2147483648) (h1 : b ≤ a → fin xs fr lo z t ls st w Q) (h2 : a < b → fin xs fr lo z p ls st w Q) : fin xs fr lo z pc ls (.int (jI b) :: .int (jI a) :: st) w Q := by
  subst hp
  refine fi_step hM he (w1 := w) (pc' := if ax_cmp .ge (jI a) (jI b) then t else pc + l) rfl ?_
  by_cases hc : b ≤ a
  · rw [if_pos ((cmp_ge_j a0 a1 b0 b1).mpr hc)]; exact h1 hc
  · rw [if_neg (fun e => hc ((cmp_ge_j a0 a1 b0 b1).mp e))]; exact h2 (by omega)
theorem s_lc_ge (hM : ax_prog[z]? = some M) (he0 : M.1[pc]? = some (some (.lcmp, l1, v1, v2, v3))) (hq : pc + l1 = q) (he : M.1[q]? = some (some (.ifCond .ge d, l, t, u2, u3))) (hp : q + l = p) (a0 : -9223372036854775808 ≤ a) (a1 : a < 9223372036854775808) (b0 : -9223372036854775808 ≤ b) (b1 : b < 9223372036854775808) (h1 : b ≤ a → fin xs fr lo z t ls st w Q) (h2 : a < b → fin xs fr lo z p ls st w Q) : fin xs fr lo z pc ls (.long (jL b) :: .long (jL a) :: st) w Q := by
  subst hq; subst hp
  refine fi_step hM he0 (w1 := w) rfl ?_
  refine fi_step hM he (w1 := w) (pc' := if ax_cmp .ge (lg_cmp (jL a) (jL b)) 0 then t else pc + l1 + l) rfl ?_
  by_cases hc : b ≤ a
  · rw [if_pos ((cmp_ge_l a0 a1 b0 b1).mpr hc)]; exact h1 hc
  · rw [if_neg (fun e => hc ((cmp_ge_l a0 a1 b0 b1).mp e))]; exact h2 (by omega)
theorem s_if_gt (hM : ax_prog[z]? = some M) (he : M.1[pc]? = some (some (.ifCond .gt d, l, t, u2, u3))) (hp : pc + l = p) (a0 : -2147483648 ≤ a) (a1 : a < 2147483648) (h1 : 0 < a → fin xs fr lo z t ls st w Q) (h2 : a ≤ 0 → fin xs fr lo z p ls st w Q) : fin xs fr lo z pc ls (.int (jI a) :: st) w Q := by
  subst hp
  refine fi_step hM he (w1 := w) (pc' := if ax_cmp .gt (jI a) (jI 0) then t else pc + l) rfl ?_
  by_cases hc : 0 < a
  · rw [if_pos ((cmp_gt_j a0 a1 (b := 0) (by decide) (by decide)).mpr hc)]; exact h1 hc
  · rw [if_neg (fun e => hc ((cmp_gt_j a0 a1 (b := 0) (by decide) (by decide)).mp e))]; exact h2 (by omega)
theorem s_ic_gt (hM : ax_prog[z]? = some M) (he : M.1[pc]? = some (some (.if_icmp .gt d, l, t, u2, u3))) (hp : pc + l = p) (a0 : -2147483648 ≤ a) (a1 : a < 2147483648) (b0 : -2147483648 ≤ b) (b1 : b < 2147483648) (h1 : b < a → fin xs fr lo z t ls st w Q) (h2 : a ≤ b → fin xs fr lo z p ls st w Q) : fin xs fr lo z pc ls (.int (jI b) :: .int (jI a) :: st) w Q := by
  subst hp
  refine fi_step hM he (w1 := w) (pc' := if ax_cmp .gt (jI a) (jI b) then t else pc + l) rfl ?_
  by_cases hc : b < a
  · rw [if_pos ((cmp_gt_j a0 a1 b0 b1).mpr hc)]; exact h1 hc
  · rw [if_neg (fun e => hc ((cmp_gt_j a0 a1 b0 b1).mp e))]; exact h2 (by omega)
theorem s_lc_gt (hM : ax_prog[z]? = some M) (he0 : M.1[pc]? = some (some (.lcmp, l1, v1, v2, v3))) (hq : pc + l1 = q) (he : M.1[q]? = some (some (.ifCond .gt d, l, t, u2, u3))) (hp : q + l = p) (a0 : -9223372036854775808 ≤ a) (a1 : a < 9223372036854775808) (b0 : -9223372036854775808 ≤ b) (b1 : b < 9223372036854775808) (h1 : b < a → fin xs fr lo z t ls st w Q) (h2 : a ≤ b → fin xs fr lo z p ls st w Q) : fin xs fr lo z pc ls (.long (jL b) :: .long (jL a) :: st) w Q := by
  subst hq; subst hp
  refine fi_step hM he0 (w1 := w) rfl ?_
  refine fi_step hM he (w1 := w) (pc' := if ax_cmp .gt (lg_cmp (jL a) (jL b)) 0 then t else pc + l1 + l) rfl ?_
  by_cases hc : b < a
  · rw [if_pos ((cmp_gt_l a0 a1 b0 b1).mpr hc)]; exact h1 hc
  · rw [if_neg (fun e => hc ((cmp_gt_l a0 a1 b0 b1).mp e))]; exact h2 (by omega)
theorem s_if_le (hM : ax_prog[z]? = some M) (he : M.1[pc]? = some (some (.ifCond .le d, l, t, u2, u3))) (hp : pc + l = p) (a0 : -2147483648 ≤ a) (a1 : a < 2147483648) (h1 : a ≤ 0 → fin xs fr lo z t ls st w Q) (h2 : 0 < a → fin xs fr lo z p ls st w Q) : fin xs fr lo z pc ls (.int (jI a) :: st) w Q := by
  subst hp
  refine fi_step hM he (w1 := w) (pc' := if ax_cmp .le (jI a) (jI 0) then t else pc + l) rfl ?_
  by_cases hc : a ≤ 0
  · rw [if_pos ((cmp_le_j a0 a1 (b := 0) (by decide) (by decide)).mpr hc)]; exact h1 hc
  · rw [if_neg (fun e => hc ((cmp_le_j a0 a1 (b := 0) (by decide) (by decide)).mp e))]; exact h2 (by omega)
theorem s_ic_le (hM : ax_prog[z]? = some M) (he : M.1[pc]? = some (some (.if_icmp .le d, l, t, u2, u3))) (hp : pc + l = p) (a0 : -2147483648 ≤ a) (a1 : a < 2147483648) (b0 : -2147483648 ≤ b) (b1 : b < 2147483648) (h1 : a ≤ b → fin xs fr lo z t ls st w Q) (h2 : b < a → fin xs fr lo z p ls st w Q) : fin xs fr lo z pc ls (.int (jI b) :: .int (jI a) :: st) w Q := by
  subst hp
  refine fi_step hM he (w1 := w) (pc' := if ax_cmp .le (jI a) (jI b) then t else pc + l) rfl ?_
  by_cases hc : a ≤ b
  · rw [if_pos ((cmp_le_j a0 a1 b0 b1).mpr hc)]; exact h1 hc
  · rw [if_neg (fun e => hc ((cmp_le_j a0 a1 b0 b1).mp e))]; exact h2 (by omega)
theorem s_lc_le (hM : ax_prog[z]? = some M) (he0 : M.1[pc]? = some (some (.lcmp, l1, v1, v2, v3))) (hq : pc + l1 = q) (he : M.1[q]? = some (some (.ifCond .le d, l, t, u2, u3))) (hp : q + l = p) (a0 : -9223372036854775808 ≤ a) (a1 : a < 9223372036854775808) (b0 : -9223372036854775808 ≤ b) (b1 : b < 9223372036854775808) (h1 : a ≤ b → fin xs fr lo z t ls st w Q) (h2 : b < a → fin xs fr lo z p ls st w Q) : fin xs fr lo z pc ls (.long (jL b) :: .long (jL a) :: st) w Q := by
  subst hq; subst hp
  refine fi_step hM he0 (w1 := w) rfl ?_
  refine fi_step hM he (w1 := w) (pc' := if ax_cmp .le (lg_cmp (jL a) (jL b)) 0 then t else pc + l1 + l) rfl ?_
  by_cases hc : a ≤ b
  · rw [if_pos ((cmp_le_l a0 a1 b0 b1).mpr hc)]; exact h1 hc
  · rw [if_neg (fun e => hc ((cmp_le_l a0 a1 b0 b1).mp e))]; exact h2 (by omega)
end BR
section RT
variable {xs : List Int32} {fr lo z pc l u1 u2 u3 : Nat} {ls : List (Option Value)} {w : ax_W} {M : ax_M} {a b : Int} {P : Option Value → ax_W → Prop}
theorem s_reti (hM : ax_prog[z]? = some M) (hr : M.2.2.1 = 1) (he : M.1[pc]? = some (some (.ireturn, l, u1, u2, u3))) (h : a = b) : fin xs fr lo z pc ls [.int (jI a)] w (Same (.int (jI b)) w) := by
  subst h; refine fi_ret hM he (v := some (.int (jI a))) ?_ ⟨rfl, rfl⟩
  rw [hr]; rfl
theorem s_retb (hM : ax_prog[z]? = some M) (hr : M.2.2.1 = 2) (he : M.1[pc]? = some (some (.ireturn, l, u1, u2, u3))) (h : a = b) (h01 : b = 0 ∨ b = 1) : fin xs fr lo z pc ls [.int (jI a)] w (Same (.int (jI b)) w) := by
  subst h; refine fi_ret hM he (v := some (.int (jI a))) ?_ ⟨rfl, rfl⟩
  rw [hr]; rcases h01 with rfl | rfl <;> rfl
theorem s_retl (hM : ax_prog[z]? = some M) (hr : M.2.2.1 = 3) (he : M.1[pc]? = some (some (.lreturn, l, u1, u2, u3))) (h : a = b) : fin xs fr lo z pc ls [.long (jL a)] w (Same (.long (jL b)) w) := by
  subst h; refine fi_ret hM he (v := some (.long (jL a))) ?_ ⟨rfl, rfl⟩
  rw [hr]; rfl
theorem s_reta {r : Nat} (hM : ax_prog[z]? = some M) (hr : M.2.2.1 = 4) (he : M.1[pc]? = some (some (.areturn, l, u1, u2, u3))) : fin xs fr lo z pc ls [.ref r] w (Same (.ref r) w) := by
  refine fi_ret hM he (v := some (.ref r)) ?_ ⟨rfl, rfl⟩
  rw [hr]; rfl
theorem p_ret (hM : ax_prog[z]? = some M) (hr : M.2.2.1 = 0) (he : M.1[pc]? = some (some (.return_, l, u1, u2, u3))) (h : P none w) : fin xs fr lo z pc ls [] w (Ret P) := by
  refine fi_ret hM he (v := none) ?_ ⟨_, rfl, h⟩
  rw [hr]; rfl
theorem p_reti (hM : ax_prog[z]? = some M) (hr : M.2.2.1 = 1) (he : M.1[pc]? = some (some (.ireturn, l, u1, u2, u3))) (h : P (some (.int (jI a))) w) : fin xs fr lo z pc ls [.int (jI a)] w (Ret P) := by
  refine fi_ret hM he (v := some (.int (jI a))) ?_ ⟨_, rfl, h⟩
  rw [hr]; rfl
theorem p_retb (hM : ax_prog[z]? = some M) (hr : M.2.2.1 = 2) (he : M.1[pc]? = some (some (.ireturn, l, u1, u2, u3))) (h01 : a = 0 ∨ a = 1) (h : P (some (.int (jI a))) w) : fin xs fr lo z pc ls [.int (jI a)] w (Ret P) := by
  refine fi_ret hM he (v := some (.int (jI a))) ?_ ⟨_, rfl, h⟩
  rw [hr]; rcases h01 with rfl | rfl <;> rfl
theorem p_retl (hM : ax_prog[z]? = some M) (hr : M.2.2.1 = 3) (he : M.1[pc]? = some (some (.lreturn, l, u1, u2, u3))) (h : P (some (.long (jL a))) w) : fin xs fr lo z pc ls [.long (jL a)] w (Ret P) := by
  refine fi_ret hM he (v := some (.long (jL a))) ?_ ⟨_, rfl, h⟩
  rw [hr]; rfl
theorem p_reta {r : Nat} (hM : ax_prog[z]? = some M) (hr : M.2.2.1 = 4) (he : M.1[pc]? = some (some (.areturn, l, u1, u2, u3))) (h : P (some (.ref r)) w) : fin xs fr lo z pc ls [.ref r] w (Ret P) := by
  refine fi_ret hM he (v := some (.ref r)) ?_ ⟨_, rfl, h⟩
  rw [hr]; rfl
end RT
