/-! decimal digits; what the reference prints -/
def ddf : Nat → Nat → List Int
  | 0, _ => []
  | f + 1, n => ((n % 10 : Nat) : Int) :: (if n / 10 = 0 then [] else ddf f (n / 10))
/-- the digits of n, the last first -/
def dd (n : Nat) : List Int := ddf (n + 1) n
theorem ddf_eq : ∀ {f f' n : Nat}, n < f → n < f' → ddf f n = ddf f' n
  | 0, _, n, h, _ => by omega
  | _ + 1, 0, n, _, h => by omega
  | f + 1, f' + 1, n, h, h' => by
    rw [ddf, ddf]
    by_cases e : n / 10 = 0
    · rw [if_pos e, if_pos e]
    · rw [if_neg e, if_neg e, ddf_eq (f := f) (f' := f') (by omega) (by omega)]
theorem dd_step (n : Nat) : dd n = ((n % 10 : Nat) : Int) :: (if n / 10 = 0 then [] else dd (n / 10)) := by
  rw [dd, ddf]
  by_cases e : n / 10 = 0
  · rw [if_pos e, if_pos e]
  · rw [if_neg e, if_neg e, dd, ddf_eq (f := n) (f' := n / 10 + 1) (by omega) (by omega)]
theorem dd_len : ∀ {k n : Nat}, n < 10 ^ (k + 1) → (dd n).length ≤ k + 1
  | 0, n, h => by rw [dd_step, if_pos (by omega)]; simp
  | k + 1, n, h => by
    rw [dd_step]
    split
    · simp
    · have : n / 10 < 10 ^ (k + 1) := by rw [Nat.pow_succ] at h; omega
      have := dd_len this
      simp; omega
theorem dd_pos (n : Nat) : 1 ≤ (dd n).length := by rw [dd_step]; simp
theorem dd_dig {n : Nat} : ∀ d, d ∈ dd n → 0 ≤ d ∧ d < 10 := by
  induction n using Nat.strongRecOn with
  | ind n ih =>
    intro d h
    rw [dd_step] at h
    rcases List.mem_cons.mp h with e | e
    · omega
    · split at e
      · simp at e
      · exact ih (n / 10) (by omega) d e
/-- values of a function from n on -/
def seg (f : Int → Int) (n : Int) : Nat → List Int
  | 0 => []
  | l + 1 => f n :: seg f (n + 1) l
theorem seg_congr {f g : Int → Int} {n : Int} : ∀ {l : Nat}, (∀ k, n ≤ k → k < n + l → f k = g k) → seg f n l = seg g n l
  | 0, _ => rfl
  | l + 1, h => by
    rw [seg, seg, h n (by omega) (by omega)]
    exact congrArg _ (seg_congr (fun k h0 h1 => h k (by omega) (by omega)))
theorem seg_len (f : Int → Int) (n : Int) : ∀ l, (seg f n l).length = l
  | 0 => rfl
  | l + 1 => by rw [seg, List.length_cons, seg_len f (n + 1) l]
theorem seg_snoc (f : Int → Int) : ∀ (l : Nat) (n : Int), seg f n (l + 1) = seg f n l ++ [f (n + l)]
  | 0, n => by simp [seg]
  | l + 1, n => by
    rw [seg, seg_snoc f l (n + 1), seg]
    simp only [List.cons_append, List.cons.injEq, true_and]
    rw [show n + 1 + (l : Int) = n + ((l + 1 : Nat) : Int) by omega]
theorem seg_plist (f : Int → Int) : ∀ l : Nat, plist f l = (seg f 0 l).reverse
  | 0 => rfl
  | l + 1 => by rw [plist, seg_snoc, List.reverse_append, ← seg_plist f l]; simp
theorem seg_mem {f : Int → Int} {n : Int} {l k : Nat} (h : k < l) : f (n + k) ∈ seg f n l := by
  induction l generalizing n k with
  | zero => omega
  | succ l ih =>
    rw [seg]
    cases k with
    | zero => simp
    | succ k =>
      have := ih (n := n + 1) (k := k) (by omega)
      rw [show n + 1 + (k : Int) = n + ((k + 1 : Nat) : Int) by omega] at this
      exact List.mem_cons_of_mem _ this
/-- this was printed -/
def prn (s : mo_S) (L : List Int) : Prop := s 0 5 = L.length ∧ seg (s 10) 0 L.length = L
def decS (n : Nat) : List Int := (dd n).reverse.map (fun d => 48 + d)
def sayS (v : Int) : List Int := (if v < 0 then [45] else []) ++ decS v.natAbs
/-- all but what is printed, and numbers, stays -/
def keepS (s s' : mo_S) : Prop := (∀ a, a ≠ 0 → a ≠ 1 → a ≠ 2 → a ≠ 3 → a ≠ 10 → a ≠ 11 → s' a = s a) ∧ ∀ i, i ≠ 5 → s' 0 i = s 0 i
theorem keepS_refl (s : mo_S) : keepS s s := ⟨fun _ _ _ _ _ _ _ => rfl, fun _ _ => rfl⟩
theorem keepS_trans {s s' s'' : mo_S} (h : keepS s s') (h' : keepS s' s'') : keepS s s'' :=
  ⟨fun a h0 h1 h2 h3 h4 h5 => (h'.1 a h0 h1 h2 h3 h4 h5).trans (h.1 a h0 h1 h2 h3 h4 h5), fun i hi => (h'.2 i hi).trans (h.2 i hi)⟩
theorem keepS_oth {s s' : mo_S} (h : oth s s') : keepS s s' := ⟨fun a _ h1 h2 h3 _ _ => h a h1 h2 h3, fun i _ => by rw [h 0 (by decide) (by decide) (by decide)]⟩
section SAY
variable {xs : List Int32} {fr lo : Nat} {w0 : ax_W} {Q : Outcome → ax_W → Prop}
theorem say1 {k : Int} {S : mo_S} {R0 : Int → Int} (hfr : 2 ≤ fr) (hlo : 60 ≤ lo) (y3 : Option Value) :
    ∀ (f n : Nat) (v : Int) (w : ax_W) (s : mo_S) (r : Int → Int), v.natAbs < 10 ^ (f + 1) → n + f + 1 ≤ 600 → RW w0 w s → (∀ a, a ≠ 1 → a ≠ 2 → a ≠ 3 → a ≠ 11 → s a = S a) → Bg s r → r 268 = v → (∀ j, j ≠ 268 → r j = R0 j) →
      (∀ w s' r', RW w0 w s' → (∀ a, a ≠ 1 → a ≠ 2 → a ≠ 3 → a ≠ 11 → s' a = S a) → Bg s' r' → (∀ j, j ≠ 268 → r' j = R0 j) → (∀ j, j < n → s' 11 j = s 11 j) → seg (s' 11) n (dd v.natAbs).length = dd v.natAbs → fin xs fr lo 175 36 [some (.ref 425), some (.int (jI k)), some (.int (jI ((n + (dd v.natAbs).length : Nat) : Int))), y3] [] w Q) →
    fin xs fr lo 175 10 [some (.ref 425), some (.int (jI k)), some (.int (jI n)), y3] [] w Q := by
  intro f
  induction f with
  | zero =>
    intro n v w s r hv hn hw ho hB h268 hr K
    have hd : dd v.natAbs = [((v.natAbs % 10 : Nat) : Int)] := by rw [dd_step, if_pos (by omega)]
    have hz : v.tdiv 10 = 0 := by have : ((v.tdiv 10).natAbs : Int) = (v.natAbs : Int) / 10 := tdiv_abs v 10; omega
    refine fi_step (pc' := 11) m_Mo_sayMore rfl rfl ?_
    refine r_get (p := 14) m_Mo_sayMore rfl rfl (by assumption) rfl ?_
    refine fi_step (pc' := 15) m_Mo_sayMore rfl rfl ?_
    refine fi_step (pc' := 16) m_Mo_sayMore rfl rfl ?_
    refine s_sipush (p := 19) m_Mo_sayMore rfl rfl rfl ?_
    refine g_2 (p := 22) m_Mo_sayMore rfl inv_v (by decide) m_Mo_bigTenth rfl rfl (by omega) (by omega) (Nat.le_of_ble_eq_true rfl) (Nat.le_of_ble_eq_true rfl) (RW_rcv hw _) (c_bigTenth (by omega) (by omega) hw hB (by decide) (by decide)) (fun v w hP => ?_)
    obtain ⟨rfl, s1, hw, o1, B1⟩ := hP
    rw [h268] at B1
    rw [h268]
    refine r_stI (p := 23) m_Mo_sayMore rfl rfl (by assumption) (by decide) (fun _ => rfl) (by decide) (by omega) (by omega) (fun w hw => ?_)
    refine s_iinc (p := 26) m_Mo_sayMore rfl rfl rfl ?_
    have B2 : Bg (up s1 11 n ((v.natAbs : Int) % 10)) (up1 r 268 (v.tdiv 10)) := Bg_congr B1 (up_ne _ (by decide) _ _) (up_ne _ (by decide) _ _) (up_ne _ (by decide) _ _)
    refine fi_step (pc' := 27) m_Mo_sayMore rfl rfl ?_
    refine s_sipush (p := 30) m_Mo_sayMore rfl rfl rfl ?_
    refine c_2 (p := 33) m_Mo_sayMore rfl inv_v (by decide) m_Mo_bigIsZero rfl rfl (by omega) (by omega) (Nat.le_of_ble_eq_true rfl) (Nat.le_of_ble_eq_true rfl) (RW_rcv hw _) (c_isZ hw B2 (by decide) (by decide)) ?_
    rw [up1_same, if_pos hz]
    refine s_if_eq (p := 36) m_Mo_sayMore rfl rfl (by omega) (by omega) (fun hbr => False.elim (by omega)) (fun hbr => ?_)
    have := K w _ _ hw (fun a h1 h2 h3 h11 => by rw [up_ne _ h11, o1 a h1 h2 h3]; exact ho a h1 h2 h3 h11) B2 (fun j hj => by rw [up1_ne _ hj]; exact hr j hj) (fun j hj => by rw [up_same, up1_ne _ (by omega), o1 11 (by decide) (by decide) (by decide)]) (by
      rw [hd]; simp only [List.length_cons, List.length_nil, seg]
      rw [up_same, up1_same]; simp)
    rw [hd] at this
    exact this
  | succ f ih =>
    intro n v w s r hv hn hw ho hB h268 hr K
    have habs : ((v.tdiv 10).natAbs : Int) = (v.natAbs : Int) / 10 := tdiv_abs v 10
    refine fi_step (pc' := 11) m_Mo_sayMore rfl rfl ?_
    refine r_get (p := 14) m_Mo_sayMore rfl rfl (by assumption) rfl ?_
    refine fi_step (pc' := 15) m_Mo_sayMore rfl rfl ?_
    refine fi_step (pc' := 16) m_Mo_sayMore rfl rfl ?_
    refine s_sipush (p := 19) m_Mo_sayMore rfl rfl rfl ?_
    refine g_2 (p := 22) m_Mo_sayMore rfl inv_v (by decide) m_Mo_bigTenth rfl rfl (by omega) (by omega) (Nat.le_of_ble_eq_true rfl) (Nat.le_of_ble_eq_true rfl) (RW_rcv hw _) (c_bigTenth (by omega) (by omega) hw hB (by decide) (by decide)) (fun v w hP => ?_)
    obtain ⟨rfl, s1, hw, o1, B1⟩ := hP
    rw [h268] at B1
    rw [h268]
    refine r_stI (p := 23) m_Mo_sayMore rfl rfl (by assumption) (by decide) (fun _ => rfl) (by decide) (by omega) (by omega) (fun w hw => ?_)
    refine s_iinc (p := 26) m_Mo_sayMore rfl rfl rfl ?_
    have B2 : Bg (up s1 11 n ((v.natAbs : Int) % 10)) (up1 r 268 (v.tdiv 10)) := Bg_congr B1 (up_ne _ (by decide) _ _) (up_ne _ (by decide) _ _) (up_ne _ (by decide) _ _)
    have ho2 : ∀ a, a ≠ 1 → a ≠ 2 → a ≠ 3 → a ≠ 11 → up s1 11 n ((v.natAbs : Int) % 10) a = S a := fun a h1 h2 h3 h11 => by rw [up_ne _ h11, o1 a h1 h2 h3]; exact ho a h1 h2 h3 h11
    refine fi_step (pc' := 27) m_Mo_sayMore rfl rfl ?_
    refine s_sipush (p := 30) m_Mo_sayMore rfl rfl rfl ?_
    refine c_2 (p := 33) m_Mo_sayMore rfl inv_v (by decide) m_Mo_bigIsZero rfl rfl (by omega) (by omega) (Nat.le_of_ble_eq_true rfl) (Nat.le_of_ble_eq_true rfl) (RW_rcv hw _) (c_isZ hw B2 (by decide) (by decide)) ?_
    rw [up1_same]
    by_cases hz : v.tdiv 10 = 0
    · have hd : dd v.natAbs = [((v.natAbs % 10 : Nat) : Int)] := by rw [dd_step, if_pos (by omega)]
      rw [if_pos hz]
      refine s_if_eq (p := 36) m_Mo_sayMore rfl rfl (by omega) (by omega) (fun hbr => False.elim (by omega)) (fun hbr => ?_)
      have := K w _ _ hw ho2 B2 (fun j hj => by rw [up1_ne _ hj]; exact hr j hj) (fun j hj => by rw [up_same, up1_ne _ (by omega), o1 11 (by decide) (by decide) (by decide)]) (by
        rw [hd]; simp only [List.length_cons, List.length_nil, seg]
        rw [up_same, up1_same]; simp)
      rw [hd] at this
      exact this
    · have hq : v.natAbs / 10 = (v.tdiv 10).natAbs := by omega
      have hd : dd v.natAbs = ((v.natAbs % 10 : Nat) : Int) :: dd (v.tdiv 10).natAbs := by rw [dd_step, if_neg (by omega), hq]
      rw [if_neg hz]
      refine s_if_eq (p := 36) m_Mo_sayMore rfl rfl (by omega) (by omega) (fun hbr => ?_) (fun hbr => False.elim (by omega))
      refine ih (n + 1) (v.tdiv 10) w _ _ (by rw [Nat.pow_succ] at hv; omega) (by omega) hw ho2 B2 (up1_same _ _ _) (fun j hj => by rw [up1_ne _ hj]; exact hr j hj) ?_
      intro w2 s2 r2 hw2 ho3 B3 hr3 h11 hseg
      have := K w2 s2 r2 hw2 ho3 B3 hr3 (fun j hj => by rw [h11 j (by omega), up_same, up1_ne _ (by omega), o1 11 (by decide) (by decide) (by decide)]) (by
        rw [hd, List.length_cons, seg, h11 n (by omega), up_same, up1_same]
        rw [show (n : Int) + 1 = ((n + 1 : Nat) : Int) by omega, hseg]
        simp)
      rw [hd, List.length_cons] at this
      rw [show n + 1 + (dd (v.tdiv 10).natAbs).length = n + ((dd (v.tdiv 10).natAbs).length + 1) by omega]
      exact this
theorem say2 {k nn : Int} {S : mo_S} {r : Int → Int} :
    ∀ (t : Nat) (L : List Int) (w : ax_W) (s : mo_S), L.length + t ≤ 1200 → t ≤ 600 → (∀ j : Nat, j < t → 0 ≤ s 11 j ∧ s 11 j < 10) → RW w0 w s → keepS S s → Bg s r → prn s L →
    fin xs fr lo 175 40 [some (.ref 425), some (.int (jI k)), some (.int (jI nn)), some (.int (jI ((t : Int) - 1)))] [] w (Ret fun u w' => u = none ∧ ∃ s', RW w0 w' s' ∧ keepS S s' ∧ Bg s' r ∧ prn s' (L ++ (plist (s 11) t).map (fun d => 48 + d))) := by
  intro t
  induction t with
  | zero =>
    intro L w s hl ht hdig hw hk hB hp
    refine fi_step (pc' := 41) m_Mo_sayMore rfl rfl ?_
    refine s_if_lt (p := 44) m_Mo_sayMore rfl rfl (by omega) (by omega) (fun hbr => ?_) (fun hbr => False.elim (by omega))
    refine p_ret m_Mo_sayMore rfl rfl ?_
    exact ⟨rfl, s, hw, hk, hB, by simp [plist]; exact hp⟩
  | succ t ih =>
    intro L w s hl ht hdig hw hk hB hp
    obtain ⟨p1, p2⟩ := hp
    have d := hdig t (by omega)
    rw [show ((t + 1 : Nat) : Int) - 1 = (t : Int) by omega]
    have e5 : up s 10 (s 0 5) (48 + s 11 t) 0 5 = s 0 5 := by rw [up_ne _ (by decide)]
    refine fi_step (pc' := 41) m_Mo_sayMore rfl rfl ?_
    refine s_if_lt (p := 44) m_Mo_sayMore rfl rfl (by omega) (by omega) (fun hbr => False.elim (by omega)) (fun hbr => ?_)
    refine fi_step (pc' := 45) m_Mo_sayMore rfl rfl ?_
    refine r_get (p := 48) m_Mo_sayMore rfl rfl (by assumption) rfl ?_
    refine fi_step (pc' := 49) m_Mo_sayMore rfl rfl ?_
    refine r_get (p := 52) m_Mo_sayMore rfl rfl (by assumption) rfl ?_
    refine s_bipush (p := 54) m_Mo_sayMore rfl rfl rfl ?_
    refine fi_step (pc' := 55) m_Mo_sayMore rfl rfl ?_
    refine r_get (p := 58) m_Mo_sayMore rfl rfl (by assumption) rfl ?_
    refine fi_step (pc' := 59) m_Mo_sayMore rfl rfl ?_
    refine r_ldI (p := 60) m_Mo_sayMore rfl rfl (by assumption) (by decide) rfl (by decide) (by omega) (by omega) ?_
    refine s_iadd (p := 61) m_Mo_sayMore rfl rfl ?_
    refine r_stI (p := 62) m_Mo_sayMore rfl rfl (by assumption) (by decide) (fun _ => rfl) (by decide) (by omega) (by omega) (fun w hw => ?_)
    refine fi_step (pc' := 63) m_Mo_sayMore rfl rfl ?_
    refine fi_step (pc' := 64) m_Mo_sayMore rfl rfl ?_
    refine r_get (p := 67) m_Mo_sayMore rfl rfl (by assumption) rfl ?_
    refine fi_step (pc' := 68) m_Mo_sayMore rfl rfl ?_
    refine s_iadd (p := 69) m_Mo_sayMore rfl rfl ?_
    refine r_put (p := 72) 5 m_Mo_sayMore rfl rfl (by assumption) (r_put5 _ _) rfl (fun w hw => ?_)
    refine s_iinc (p := 75) m_Mo_sayMore rfl rfl rfl ?_
    refine fi_step (pc' := 40) m_Mo_sayMore rfl rfl ?_
    rw [e5] at hw
    refine fi_mono (ih (L ++ [48 + s 11 t]) w _ (by rw [List.length_append]; simp; omega) (by omega) (fun j hj => by rw [up_ne _ (by decide), up_ne _ (by decide)]; exact hdig j (by omega)) hw ⟨fun a h0 h1 h2 h3 h10 h11 => by rw [up_ne _ h0, up_ne _ h10]; exact hk.1 a h0 h1 h2 h3 h10 h11, fun i hi => by rw [up_same, up1_ne _ hi, up_ne _ (by decide)]; exact hk.2 i hi⟩ (Bg_congr hB (by rw [up_ne _ (by decide), up_ne _ (by decide)]) (by rw [up_ne _ (by decide), up_ne _ (by decide)]) (by rw [up_ne _ (by decide), up_ne _ (by decide)])) ⟨?_, ?_⟩) ?_
    · rw [up_same, up1_same, p1, List.length_append]; simp
    · rw [List.length_append, List.length_singleton, seg_snoc, up_ne _ (by decide), up_same, Int.zero_add, ← p1, up1_same, seg_congr (g := s 10) (fun q q0 q1 => up1_ne _ (by omega) _), p2]
    · rintro o w' ⟨v, rfl, hv, s', g1, g2, g3, g4⟩
      refine ⟨v, rfl, hv, s', g1, g2, g3, ?_⟩
      rw [up_ne _ (by decide), up_ne _ (by decide)] at g4
      rw [plist, List.map_cons, show L ++ (48 + s 11 t) :: (plist (s 11) t).map (fun d => 48 + d) = (L ++ [48 + s 11 t]) ++ (plist (s 11) t).map (fun d => 48 + d) by simp]
      exact g4
theorem c_sayMore {k : Int} {L : List Int} {w : ax_W} {s : mo_S} {r : Int → Int} (hfr : 2 ≤ fr) (hlo : 60 ≤ lo) (hw : RW w0 w s) (hB : Bg s r) (k0 : 0 ≤ k) (k1 : k < 277) (hk : k ≠ 268) (hp : prn s L) (hl : L.length ≤ 200) (hb : (r k).natAbs < 10 ^ 120) :
    fin xs fr lo 175 0 (ax_ent [.ref 425, .int (jI k)] 4) [] w (Ret fun u w' => u = none ∧ ∃ s' r', RW w0 w' s' ∧ keepS s s' ∧ Bg s' r' ∧ (∀ j, j ≠ 268 → r' j = r j) ∧ prn s' (L ++ decS (r k).natAbs)) := by
  refine fi_step (pc' := 1) m_Mo_sayMore rfl rfl ?_
  refine s_sipush (p := 4) m_Mo_sayMore rfl rfl rfl ?_
  refine fi_step (pc' := 5) m_Mo_sayMore rfl rfl ?_
  refine g_3 (p := 8) m_Mo_sayMore rfl inv_v (by decide) m_Mo_bigCopy rfl rfl (by omega) (by omega) (Nat.le_of_ble_eq_true rfl) (Nat.le_of_ble_eq_true rfl) (RW_rcv hw _) (c_bigCopy hw hB (by decide) (by decide) k0 k1 (by omega)) (fun v w hP => ?_)
  obtain ⟨rfl, s1, hw, o1, B1⟩ := hP
  have hlen := dd_len hb
  have hpos := dd_pos (r k).natAbs
  refine fi_step (pc' := 9) m_Mo_sayMore rfl rfl ?_
  refine fi_step (pc' := 10) m_Mo_sayMore rfl rfl ?_
  refine say1 (S := s1) (R0 := r) hfr hlo _ 119 0 (r k) w s1 _ hb (by omega) hw (fun _ _ _ _ _ => rfl) B1 (up1_same _ _ _) (fun j hj => up1_ne _ hj _) ?_
  intro w2 s2 r2 hw o2 B2 hr2 _ hseg
  rw [Nat.zero_add]
  refine fi_step (pc' := 37) m_Mo_sayMore rfl rfl ?_
  refine fi_step (pc' := 38) m_Mo_sayMore rfl rfl ?_
  refine s_isub (p := 39) m_Mo_sayMore rfl rfl ?_
  refine fi_step (pc' := 40) m_Mo_sayMore rfl rfl ?_
  have e0 : s2 0 = s 0 := by rw [o2 0 (by decide) (by decide) (by decide) (by decide), o1 0 (by decide) (by decide) (by decide)]
  have e10 : s2 10 = s 10 := by rw [o2 10 (by decide) (by decide) (by decide) (by decide), o1 10 (by decide) (by decide) (by decide)]
  have ks : keepS s s2 := ⟨fun a h0 h1 h2 h3 h10 h11 => by rw [o2 a h1 h2 h3 h11, o1 a h1 h2 h3], fun i _ => by rw [e0]⟩
  refine fi_mono (say2 (S := s) (r := r2) (dd (r k).natAbs).length L w2 s2 (by omega) (by omega) (fun j hj => ?_) hw ks B2 ⟨by rw [e0]; exact hp.1, by rw [e10]; exact hp.2⟩) ?_
  · have := seg_mem (f := s2 11) (n := 0) hj
    rw [show ((0 : Int)) = ((0 : Nat) : Int) from rfl, hseg] at this
    simp at this
    exact dd_dig _ this
  · rintro o w' ⟨v, rfl, hv, s', g1, g2, g3, g4⟩
    refine ⟨v, rfl, hv, s', r2, g1, g2, g3, hr2, ?_⟩
    rw [seg_plist] at g4
    rw [show ((0 : Nat) : Int) = 0 from rfl] at hseg
    rw [hseg] at g4
    exact g4
theorem c_say {k : Int} {w : ax_W} {s : mo_S} {r : Int → Int} (hfr : 3 ≤ fr) (hlo : 90 ≤ lo) (hw : RW w0 w s) (hB : Bg s r) (k0 : 0 ≤ k) (k1 : k < 277) (hk : k ≠ 268) (hb : (r k).natAbs < 10 ^ 120) :
    fin xs fr lo 173 0 (ax_ent [.ref 425, .int (jI k)] 2) [] w (Ret fun u w' => ∃ s' r', RW w0 w' s' ∧ keepS s s' ∧ Bg s' r' ∧ (∀ j, j ≠ 268 → r' j = r j) ∧ prn s' (sayS (r k)) ∧ u = some (.int (jI ((sayS (r k)).length : Nat)))) := by
  have fin1 : ∀ (L : List Int) (s1 : mo_S) (w1 : ax_W), L = (if r k < 0 then [45] else []) → RW w0 w1 s1 → keepS s s1 → Bg s1 r → prn s1 L → fin xs fr lo 173 26 [some (.ref 425), some (.int (jI k))] [] w1 (Ret fun u w' => ∃ s' r', RW w0 w' s' ∧ keepS s s' ∧ Bg s' r' ∧ (∀ j, j ≠ 268 → r' j = r j) ∧ prn s' (sayS (r k)) ∧ u = some (.int (jI ((sayS (r k)).length : Nat)))) := by
    intro L s1 w1 hL hw ks B1 hp
    have hLl : L.length ≤ 1 := by rw [hL]; split <;> simp
    refine fi_step (pc' := 27) m_Mo_say rfl rfl ?_
    refine fi_step (pc' := 28) m_Mo_say rfl rfl ?_
    refine g_2 (p := 31) m_Mo_say rfl inv_v (by decide) m_Mo_sayMore rfl rfl (by omega) (by omega) (Nat.le_of_ble_eq_true rfl) (Nat.le_of_ble_eq_true rfl) (RW_rcv hw _) (c_sayMore (by omega) (by omega) hw B1 k0 k1 hk hp (by omega) hb) (fun v w hP => ?_)
    obtain ⟨rfl, s2, r2, hw, k2, B2, hr2, p2⟩ := hP
    have pe := p2.1
    have e : L ++ decS (r k).natAbs = sayS (r k) := by rw [hL]; rfl
    rw [e] at p2 pe
    refine fi_step (pc' := 32) m_Mo_say rfl rfl ?_
    refine r_get (p := 35) m_Mo_say rfl rfl (by assumption) rfl ?_
    refine p_reti m_Mo_say rfl rfl ?_
    exact ⟨s2, r2, hw, keepS_trans ks k2, B2, hr2, p2, by rw [pe]⟩
  have B0 : Bg (up s 0 5 0) r := Bg_congr hB (up_ne _ (by decide) _ _) (up_ne _ (by decide) _ _) (up_ne _ (by decide) _ _)
  have k0' : keepS s (up s 0 5 0) := ⟨fun a h0 _ _ _ _ _ => up_ne _ h0 _ _, fun i hi => by rw [up_same, up1_ne _ hi]⟩
  refine fi_step (pc' := 1) m_Mo_say rfl rfl ?_
  refine fi_step (pc' := 2) m_Mo_say rfl rfl ?_
  refine r_put (p := 5) 5 m_Mo_say rfl rfl (by assumption) (r_put5 _ _) rfl (fun w hw => ?_)
  refine fi_step (pc' := 6) m_Mo_say rfl rfl ?_
  refine fi_step (pc' := 7) m_Mo_say rfl rfl ?_
  refine c_2 (p := 10) m_Mo_say rfl inv_v (by decide) m_Mo_bigSign rfl rfl (by omega) (by omega) (Nat.le_of_ble_eq_true rfl) (Nat.le_of_ble_eq_true rfl) (RW_rcv hw _) (c_bigSign hw B0 k0 k1) ?_
  by_cases hneg : r k < 0
  · rw [if_neg (by omega), if_pos hneg]
    refine s_if_ge (p := 13) m_Mo_say rfl rfl (by omega) (by omega) (fun hbr => False.elim (by omega)) (fun hbr => ?_)
    refine fi_step (pc' := 14) m_Mo_say rfl rfl ?_
    refine r_get (p := 17) m_Mo_say rfl rfl (by assumption) rfl ?_
    refine fi_step (pc' := 18) m_Mo_say rfl rfl ?_
    refine s_bipush (p := 20) m_Mo_say rfl rfl rfl ?_
    refine r_stI (p := 21) m_Mo_say rfl rfl (by assumption) (by decide) (fun _ => rfl) (by decide) (by omega) (by omega) (fun w hw => ?_)
    refine fi_step (pc' := 22) m_Mo_say rfl rfl ?_
    refine fi_step (pc' := 23) m_Mo_say rfl rfl ?_
    refine r_put (p := 26) 5 m_Mo_say rfl rfl (by assumption) (r_put5 _ _) rfl (fun w hw => ?_)
    refine fin1 [45] _ w (by rw [if_pos hneg]) hw ?_ (Bg_congr B0 (by rw [up_ne _ (by decide), up_ne _ (by decide)]) (by rw [up_ne _ (by decide), up_ne _ (by decide)]) (by rw [up_ne _ (by decide), up_ne _ (by decide)])) ⟨?_, ?_⟩
    · exact ⟨fun a h0 h1 h2 h3 h10 h11 => by rw [up_ne _ h0, up_ne _ h10, up_ne _ h0], fun i hi => by rw [up_same, up1_ne _ hi, up_ne _ (by decide), up_same, up1_ne _ hi]⟩
    · rw [up_same, up1_same]; rfl
    · simp only [List.length_singleton, seg]
      rw [up_ne _ (by decide), up_same, up1_same]
  · have : (if r k = 0 then (0 : Int) else if r k < 0 then -1 else 1) = 0 ∨ (if r k = 0 then (0 : Int) else if r k < 0 then -1 else 1) = 1 := by
      rw [if_neg hneg]
      split
      · exact Or.inl rfl
      · exact Or.inr rfl
    refine s_if_ge (p := 13) m_Mo_say rfl rfl (by omega) (by omega) (fun hbr => ?_) (fun hbr => False.elim (by omega))
    refine fin1 [] _ w (by rw [if_neg hneg]) hw k0' B0 ⟨?_, rfl⟩
    rw [up_same, up1_same]; rfl
end SAY
