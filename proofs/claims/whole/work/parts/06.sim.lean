/-! words that last, and what the heap holds of the abstract world -/
def ax_keep : Jvm.Cond → Bool
  | .fieldLinkNest .. => true
  | .methodLinkNest .. => true
  | .arrayOver (.object _) => true
  | w => goodWord w
theorem ax_word {args a' : Array Value} {s U : State} (hW : s.WarmedH U.vm) {w : Jvm.Cond} (hk : ax_keep w = true) (h : w.before args s = true) : w.before a' U = true := by
  unfold ax_keep at hk
  split at hk
  · exact va_Nw.use rfl (va_Nw.warmF hW (va_Nw.of rfl h))
  · exact va_Nw.use rfl (va_Nw.warmM hW (va_Nw.of rfl h))
  · exact va_AO.use (va_AO.moved hW.alike (va_AO.of h))
  · exact word_at hW (good_of_word hk) h
/-- what the tables say: D.1 t the class of tag t, D.2 c k the slot of field k of class c -/
def ax_K (D : va_G) (s : State) : Prop := (∀ (c : Nat) (q : vw_C), cls_all[c]? = some q → u_Kn s q.1 q.2.1 q.2.2 (D.1 c) (D.2 c)) ∧ ∀ (t : Nat) (ty : FieldType), ax_ty t = some ty → ArrOfT s (D.1 t) ty ∧ va_RA s (D.1 t) ty
theorem ax_K.moved {D : va_G} {u U : State} (hvm : u.vm.Alike U.vm) (h : ax_K D u) : ax_K D U :=
  ⟨fun c q hq => u_Kn_moved hvm (h.1 c q hq), fun t ty ht => ⟨arrOfT_moved hvm (h.2 t ty ht).1, (h.2 t ty ht).2.moved hvm⟩⟩
def ax_nf (t : Nat) : Nat := match cls_all[t]? with
  | some q => q.2.2
  | none => 0
def ax_sx (D : va_G) (t k : Nat) : Nat := if 20 ≤ t then k else D.2 t k
def ax_cell (B : Nat) (X : Nat → Value) (D : va_G) (q : Nat × List Value) (cell : Cell) : Prop :=
  cell.cls = D.1 q.1 ∧ cell.vm = .none ∧ (cell.monitor = {} ∧ cell.hash = none) ∧ (20 ≤ q.1 → (∃ ty, ax_ty q.1 = some ty) ∧ cell.slots.size = q.2.length) ∧ (q.1 < 20 → q.2.length ≤ ax_nf q.1 ∧ q.1 < 11) ∧
    cell.slots.size = ax_cs q ∧ ∀ (k : Nat) (v : Value), q.2[k]? = some v → cell.slots[ax_sx D q.1 k]? = some (ax_v B X v)
def ax_Sim (B : Nat) (X : Nat → Value) (D : va_G) (H0 : Heap) (w : ax_W) (H : Heap) : Prop :=
  H.size = B + w.length ∧ (∀ (i : Nat) (q : Nat × List Value), w[i]? = some q → ∃ cell : Cell, H[B + i]? = some cell ∧ ax_cell B X D q cell) ∧ ∀ a : Nat, a < B → H[a]? = H0[a]?
section AX3
variable {B : Nat} {X : Nat → Value} {D : va_G} {H0 H H' : Heap} {w : ax_W}
theorem ax_Sim.set (h : ax_Sim B X D H0 w H) {i : Nat} {q : Nat × List Value} {cell : Cell} (hi : i < w.length) (hc : ax_cell B X D q cell) (e1 : H'[B + i]? = some cell) (e2 : H'.size = H.size) (e3 : ∀ a, a ≠ B + i → H'[a]? = H[a]?) : ax_Sim B X D H0 (w.set i q) H' := by
  refine ⟨by rw [e2, h.1, List.length_set], fun j u hu => ?_, fun a ha => by rw [e3 a (by omega)]; exact h.2.2 a ha⟩
  by_cases hij : i = j
  · subst hij
    rw [List.getElem?_set_self hi] at hu
    cases hu
    exact ⟨cell, e1, hc⟩
  · rw [List.getElem?_set_ne hij] at hu
    obtain ⟨cl, c1, c2⟩ := h.2.1 j u hu
    exact ⟨cl, by rw [e3 _ (by omega)]; exact c1, c2⟩
theorem ax_Sim.push (h : ax_Sim B X D H0 w H) {q : Nat × List Value} {cell : Cell} (hc : ax_cell B X D q cell) (e1 : H'[H.size]? = some cell) (e2 : H'.size = H.size + 1) (e3 : ∀ a, a < H.size → H'[a]? = H[a]?) : ax_Sim B X D H0 (w ++ [q]) H' := by
  have hz := h.1
  refine ⟨by rw [e2, hz]; simp; omega, fun j u hu => ?_, fun a ha => by rw [e3 a (by omega)]; exact h.2.2 a ha⟩
  by_cases hj : j < w.length
  · rw [List.getElem?_append_left hj] at hu
    obtain ⟨cl, c1, c2⟩ := h.2.1 j u hu
    exact ⟨cl, by rw [e3 _ (by omega)]; exact c1, c2⟩
  · have hj2 : j < (w ++ [q]).length := (List.getElem?_eq_some_iff.mp hu).1
    have hjw : j = w.length := by simp at hj2; omega
    subst hjw
    have hu' : u = q := by simpa using hu.symm
    subst hu'
    exact ⟨cell, by rw [← hz]; exact e1, hc⟩
/-- a cell's contents change at one place -/
theorem ax_cell.set {q : Nat × List Value} {cell : Cell} (h : ax_cell B X D q cell) (hap : q.1 < 20 → ∀ a b, a < ax_nf q.1 → b < ax_nf q.1 → a ≠ b → D.2 q.1 a ≠ D.2 q.1 b) (hq : q.1 ≠ 9 ∧ q.1 ≠ 10) {k : Nat} (hk : k < q.2.length) (v : Value) : ax_cell B X D (q.1, q.2.set k v) (cell.setSlot (ax_sx D q.1 k) (ax_v B X v)) := by
  obtain ⟨h1, h2, hm, h3, h4, hz, h5⟩ := h
  have hlt : ax_sx D q.1 k < cell.slots.size := by
    have := h5 k q.2[k] (List.getElem?_eq_getElem hk)
    exact k2_hasslot this
  refine ⟨h1, h2, hm, fun ht => ⟨(h3 ht).1, by rw [k2_slotsz]; simp [(h3 ht).2]⟩, fun ht => ⟨by simpa using (h4 ht).1, (h4 ht).2⟩, by rw [k2_slotsz, hz]; simp [ax_cs, hq.1, hq.2], fun j u hu => ?_⟩
  by_cases hjk : k = j
  · subst hjk
    rw [List.getElem?_set_self hk] at hu
    cases hu
    exact Cell.slots_setSlot_self _ hlt
  · rw [List.getElem?_set_ne hjk] at hu
    have hj : j < q.2.length := (List.getElem?_eq_some_iff.mp hu).1
    rw [slot_ne]
    · exact h5 j u hu
    · unfold ax_sx
      by_cases ht : 20 ≤ q.1
      · rw [if_pos ht, if_pos ht]; exact hjk
      · rw [if_neg ht, if_neg ht]
        have := (h4 (by omega)).1
        exact hap (by omega) k j (by omega) (by omega) hjk
theorem ax_cell.arr {q : Nat × List Value} {cell : Cell} (h : ax_cell B X D q cell) {s : State} (hK : ax_K D s) {ty : FieldType} (ht : ax_ty q.1 = some ty) : s.isArrayOf cell ty := by
  obtain ⟨-, k, hk, comp, hkind⟩ := (hK.2 _ _ ht).1 0 (fun _ => .null)
  exact ⟨fun z hz => (by rw [h.2.1] at hz; cases hz), k, (by rw [h.1]; exact hk), comp, hkind⟩
theorem ax_cell.known {q : Nat × List Value} {cell : Cell} (h : ax_cell B X D q cell) : cell.vm ≠ .unknown := by
  rw [h.2.1]; exact fun z => by cases z
end AX3
