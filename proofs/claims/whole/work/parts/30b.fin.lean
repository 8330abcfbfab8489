/-! the same with what holds at the end: fin .. Q -/
def fin (xs : List Int32) (fr lo z pc : Nat) (ls : List (Option Value)) (st : List Value) (w : ax_W) (Q : Outcome → ax_W → Prop) : Prop := ∃ o w', ax_Ok xs fr lo z pc ls st w o w' ∧ Q o w'
/-- it returns -/
def Ret (P : Option Value → ax_W → Prop) : Outcome → ax_W → Prop := fun o w => ∃ v, o = .returned v ∧ P v w
/-- it returns v, and the world is as it was -/
def Same (v : Value) (w : ax_W) : Outcome → ax_W → Prop := fun o w' => o = .returned (some v) ∧ w' = w
section FIN
variable {xs : List Int32} {fr lo z pc : Nat} {ls : List (Option Value)} {st : List Value} {w : ax_W} {Q Q' : Outcome → ax_W → Prop} {M : ax_M}
theorem fi_mono (h : fin xs fr lo z pc ls st w Q) (hq : ∀ o w', Q o w' → Q' o w') : fin xs fr lo z pc ls st w Q' := by
  obtain ⟨o, w', h1, h2⟩ := h; exact ⟨o, w', h1, hq o w' h2⟩
theorem fi_ret {e : ax_E} (hM : ax_prog[z]? = some M) (he : M.1[pc]? = some (some e)) {v : Option Value} (hv : ax_ret M.2.2.1 e.1 st = some v) (hq : Q (.returned v) w) : fin xs fr lo z pc ls st w Q := ⟨_, _, ok_ret hM he hv, hq⟩
theorem fi_throw {e : ax_E} (hM : ax_prog[z]? = some M) (he : M.1[pc]? = some (some e)) {i : Nat} {t : List Value} (hi : e.1 = .athrow) (hemp : M.2.2.2.isEmpty = true) (hq : Q (.threw i) w) : fin xs fr lo z pc ls (.ref i :: t) w Q := ⟨_, _, ok_throw hM he hi hemp, hq⟩
theorem fi_step {e : ax_E} (hM : ax_prog[z]? = some M) (he : M.1[pc]? = some (some e)) {pc' : Nat} {ls' : List (Option Value)} {st' : List Value} {w1 : ax_W} (hs : ax_step ax_kinds ax_kI ax_kJ xs e pc ls st w = some (pc', ls', st', w1)) (k : fin xs fr lo z pc' ls' st' w1 Q) : fin xs fr lo z pc ls st w Q := by
  obtain ⟨o, w', h, hq⟩ := k; exact ⟨o, w', ok_step hM he hs h, hq⟩
theorem fi_spc {e : ax_E} (hM : ax_prog[z]? = some M) (he : M.1[pc]? = some (some e)) (hinv : ax_isinv e.1) (h1 : 1000 ≤ e.2.2.1) {st' : List Value} {w1 : ax_W} (hs : ax_spc fr lo e.2.2.1 st w = some (st', w1)) (k : fin xs fr lo z (pc + 3) ls st' w1 Q) : fin xs fr lo z pc ls st w Q := by
  obtain ⟨o, w', h, hq⟩ := k; exact ⟨o, w', ok_spc hM he hinv h1 hs h, hq⟩
theorem fi_hp {e : ax_E} (hM : ax_prog[z]? = some M) (he : M.1[pc]? = some (some e)) (h1 : ax_st e.1 ls st = none) (h2 : ax_sto e.1 ls st = none) (h3 : ax_br e.1 e.2.2.1 (pc + e.2.1) pc st = none) {st' : List Value} {w1 : ax_W} (h4 : ax_hp ax_kinds ax_kI ax_kJ xs e st w = some (st', w1)) (kk : fin xs fr lo z (pc + e.2.1) ls st' w1 Q) : fin xs fr lo z pc ls st w Q := by
  obtain ⟨o, w', h, hq⟩ := kk; exact ⟨o, w', ok_hp hM he h1 h2 h3 h4 h, hq⟩
theorem fi_get {idx len c k j : Nat} (hM : ax_prog[z]? = some M) (he : M.1[pc]? = some (some (.getfield idx, len, c, k, j))) {i : Nat} {fs : List Value} {v : Value} (hw : w[i]? = some (c, fs)) (hv : fs[k]? = some v) (kk : fin xs fr lo z (pc + len) ls (v :: st) w Q) : fin xs fr lo z pc ls (.ref i :: st) w Q := by
  obtain ⟨o, w', h, hq⟩ := kk; exact ⟨o, w', ok_get hM he hw hv h, hq⟩
theorem fi_put {idx len c k j : Nat} (hM : ax_prog[z]? = some M) (he : M.1[pc]? = some (some (.putfield idx, len, c, k, j))) {ks : List Nat} {fk : Nat} (h1 : ax_kinds[c]? = some ks) (h2 : ks[k]? = some fk) {i : Nat} {fs : List Value} {v : Value} (hf : ax_fit fk v = true) (hw : w[i]? = some (c, fs)) (hk : k < fs.length) (kk : fin xs fr lo z (pc + len) ls st (w.set i (c, fs.set k v)) Q) : fin xs fr lo z pc ls (v :: .ref i :: st) w Q := by
  obtain ⟨o, w', h, hq⟩ := kk; exact ⟨o, w', ok_put hM he h1 h2 hf hw hk h, hq⟩
theorem fi_iald {len c k j : Nat} (hM : ax_prog[z]? = some M) (he : M.1[pc]? = some (some (.iaload, len, c, k, j))) {i : Nat} {n : Int32} {vs : List Value} {v : Value} (hw : w[i]? = some (20, vs)) (hn : ¬ n < 0) (hv : vs[n.toNatClampNeg]? = some v) (kk : fin xs fr lo z (pc + len) ls (v :: st) w Q) : fin xs fr lo z pc ls (.int n :: .ref i :: st) w Q := by
  obtain ⟨o, w', h, hq⟩ := kk; exact ⟨o, w', ok_iald hM he hw hn hv h, hq⟩
theorem fi_lald {len c k j : Nat} (hM : ax_prog[z]? = some M) (he : M.1[pc]? = some (some (.laload, len, c, k, j))) {i : Nat} {n : Int32} {vs : List Value} {v : Value} (hw : w[i]? = some (21, vs)) (hn : ¬ n < 0) (hv : vs[n.toNatClampNeg]? = some v) (kk : fin xs fr lo z (pc + len) ls (v :: st) w Q) : fin xs fr lo z pc ls (.int n :: .ref i :: st) w Q := by
  obtain ⟨o, w', h, hq⟩ := kk; exact ⟨o, w', ok_lald hM he hw hn hv h, hq⟩
theorem fi_cald {len c k j : Nat} (hM : ax_prog[z]? = some M) (he : M.1[pc]? = some (some (.caload, len, c, k, j))) {i : Nat} {n : Int32} {vs : List Value} {v : Value} (hw : w[i]? = some (22, vs)) (hn : ¬ n < 0) (hv : vs[n.toNatClampNeg]? = some v) (kk : fin xs fr lo z (pc + len) ls (v :: st) w Q) : fin xs fr lo z pc ls (.int n :: .ref i :: st) w Q := by
  obtain ⟨o, w', h, hq⟩ := kk; exact ⟨o, w', ok_cald hM he hw hn hv h, hq⟩
theorem fi_zald {len c k j : Nat} (hM : ax_prog[z]? = some M) (he : M.1[pc]? = some (some (.baload, len, c, k, j))) {i : Nat} {n : Int32} {vs : List Value} {v : Value} (hw : w[i]? = some (23, vs)) (hn : ¬ n < 0) (hv : vs[n.toNatClampNeg]? = some v) (kk : fin xs fr lo z (pc + len) ls (v :: st) w Q) : fin xs fr lo z pc ls (.int n :: .ref i :: st) w Q := by
  obtain ⟨o, w', h, hq⟩ := kk; exact ⟨o, w', ok_zald hM he hw hn hv h, hq⟩
theorem fi_aald {len c k j : Nat} (hM : ax_prog[z]? = some M) (he : M.1[pc]? = some (some (.aaload, len, c, k, j))) {i t : Nat} {n : Int32} {vs : List Value} {v : Value} (hw : w[i]? = some (t, vs)) (ht : ¬ t < 30) (hn : ¬ n < 0) (hv : vs[n.toNatClampNeg]? = some v) (kk : fin xs fr lo z (pc + len) ls (v :: st) w Q) : fin xs fr lo z pc ls (.int n :: .ref i :: st) w Q := by
  obtain ⟨o, w', h, hq⟩ := kk; exact ⟨o, w', ok_aald hM he hw ht hn hv h, hq⟩
theorem fi_alen {len c k j : Nat} (hM : ax_prog[z]? = some M) (he : M.1[pc]? = some (some (.arraylength, len, c, k, j))) {i t : Nat} {vs : List Value} (hw : w[i]? = some (t, vs)) (ht : ¬ t < 20) (kk : fin xs fr lo z (pc + len) ls (.int vs.length.toInt32 :: st) w Q) : fin xs fr lo z pc ls (.ref i :: st) w Q := by
  obtain ⟨o, w', h, hq⟩ := kk; exact ⟨o, w', ok_alen hM he hw ht h, hq⟩
theorem fi_iast {len c k j : Nat} (hM : ax_prog[z]? = some M) (he : M.1[pc]? = some (some (.iastore, len, c, k, j))) {i : Nat} {n x : Int32} {vs : List Value} (hw : w[i]? = some (20, vs)) (hn : ¬ n < 0) (hl : n.toNatClampNeg < vs.length) (kk : fin xs fr lo z (pc + len) ls st (w.set i (20, vs.set n.toNatClampNeg (.int x))) Q) : fin xs fr lo z pc ls (.int x :: .int n :: .ref i :: st) w Q := by
  obtain ⟨o, w', h, hq⟩ := kk; exact ⟨o, w', ok_iast hM he hw hn hl h, hq⟩
theorem fi_last {len c k j : Nat} (hM : ax_prog[z]? = some M) (he : M.1[pc]? = some (some (.lastore, len, c, k, j))) {i : Nat} {n : Int32} {x : Int64} {vs : List Value} (hw : w[i]? = some (21, vs)) (hn : ¬ n < 0) (hl : n.toNatClampNeg < vs.length) (kk : fin xs fr lo z (pc + len) ls st (w.set i (21, vs.set n.toNatClampNeg (.long x))) Q) : fin xs fr lo z pc ls (.long x :: .int n :: .ref i :: st) w Q := by
  obtain ⟨o, w', h, hq⟩ := kk; exact ⟨o, w', ok_last hM he hw hn hl h, hq⟩
theorem fi_cast {len c k j : Nat} (hM : ax_prog[z]? = some M) (he : M.1[pc]? = some (some (.castore, len, c, k, j))) {i : Nat} {n x : Int32} {vs : List Value} (hw : w[i]? = some (22, vs)) (hn : ¬ n < 0) (hl : n.toNatClampNeg < vs.length) (h0 : ¬ x < 0) (h1 : ¬ 65535 < x) (kk : fin xs fr lo z (pc + len) ls st (w.set i (22, vs.set n.toNatClampNeg (.int x))) Q) : fin xs fr lo z pc ls (.int x :: .int n :: .ref i :: st) w Q := by
  obtain ⟨o, w', h, hq⟩ := kk; exact ⟨o, w', ok_cast22 hM he hw hn hl h0 h1 h, hq⟩
theorem fi_zast {len c k j : Nat} (hM : ax_prog[z]? = some M) (he : M.1[pc]? = some (some (.bastore, len, c, k, j))) {i : Nat} {n x : Int32} {vs : List Value} (hw : w[i]? = some (23, vs)) (hn : ¬ n < 0) (hl : n.toNatClampNeg < vs.length) (h0 : ¬ x < 0) (h1 : ¬ 1 < x) (kk : fin xs fr lo z (pc + len) ls st (w.set i (23, vs.set n.toNatClampNeg (.int x))) Q) : fin xs fr lo z pc ls (.int x :: .int n :: .ref i :: st) w Q := by
  obtain ⟨o, w', h, hq⟩ := kk; exact ⟨o, w', ok_zast hM he hw hn hl h0 h1 h, hq⟩
/-- a call: what the callee comes to, and how it goes on: behind a return, or (with no handler, or a handler h) behind a throw -/
theorem fi_call {M' : ax_M} {e : ax_E} (hM : ax_prog[z]? = some M) (he : M.1[pc]? = some (some e)) (hinv : ax_isinv e.1) {zc b : Nat} (hz : e.2.2.1 = zc) (hb : e.2.2.2.1 = b) (h1 : zc < 1000) (hM' : ax_prog[zc]? = some M') (hfr : 1 ≤ fr) (hlo : M'.2.1 + 19 ≤ lo)
    {as rest : List Value} (hst : st = as.reverse ++ rest) (hn : as.length = b % 100) (hwt : (rest.map ax_wt).sum ≤ 8) (hsl : (ax_sl as).length ≤ M'.2.1) (hrc : ax_rcv (b / 100) as w = true)
    (hc : fin xs (fr - 1) (lo - (M'.2.1 + 19)) zc 0 (ax_ent as M'.2.1) [] w Q')
    (kr : ∀ v w1, Q' (.returned v) w1 → fin xs fr lo z (pc + 3) ls (v.toList ++ rest) w1 Q)
    (kt : ∀ i w1, Q' (.threw i) w1 → ∃ t q, w1[i]? = some (t, q) ∧ ((M.2.2.2 = [] ∧ Q (.threw i) w1) ∨ ∃ h, ax_hdl M.2.2.2 pc t = some h ∧ fin xs fr lo z h ls [.ref i] w1 Q)) : fin xs fr lo z pc ls st w Q := by
  obtain ⟨o, w1, hk, hq⟩ := hc
  cases o with
  | returned v =>
    obtain ⟨o2, w2, hk2, hq2⟩ := kr v w1 hq
    exact ⟨o2, w2, ok_call hM he hinv hz hb h1 hM' hfr hlo hst hn hwt hsl hrc hk hk2, hq2⟩
  | threw i =>
    obtain ⟨t, q, hi, hh | ⟨h, hh, o2, w2, hk2, hq2⟩⟩ := kt i w1 hq
    · exact ⟨_, _, ok_callT hM he hinv hz hb h1 hM' hfr hlo hst hn hwt hsl hrc hk hi hh.1, hh.2⟩
    · exact ⟨o2, w2, ok_callC hM he hinv hz hb h1 hM' hfr hlo hst hn hwt hsl hrc hk hi hh hk2, hq2⟩
end FIN
