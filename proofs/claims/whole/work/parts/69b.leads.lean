theorem plist_up (lead : Int → Int) (f : Nat) (j : Int) : plist (up1 lead f j) (f + 1) = j :: plist lead f := by
  rw [plist, up1_same, plist_congr (g := lead) (fun k hk => up1_ne _ (by omega) _)]
theorem leads_new {vs : List Vec} {j : Int} {lead : Int → Int} {f : Nat} (h : isLeads vs j lead f) (j0 : 0 ≤ j) (hB : ∃ B : List Vec, B.length = f + 1 ∧ (∀ v, v ∈ B → v ∈ vs) ∧ det B (j :: plist lead f) ≠ 0) : isLeads vs (j + 1) (up1 lead f j) (f + 1) := by
  refine ⟨fun i k hik hk => ?_, fun k hk => ?_, by rw [plist_up]; exact hB, fun j' p0 p1 q hq h1 h2 l hl hm => ?_⟩
  · by_cases e : k = f
    · subst e; rw [up1_same, up1_ne _ (by omega)]; exact (h.2.1 i hik).2
    · rw [up1_ne _ (by omega), up1_ne _ (by omega)]; exact h.1 i k hik (by omega)
  · by_cases e : k = f
    · subst e; rw [up1_same]; omega
    · rw [up1_ne _ (by omega)]; have := h.2.1 k (by omega); omega
  · have hqf : q ≠ f + 1 := fun e => by have := h1 f (by omega); rw [up1_same] at this; omega
    rw [plist_congr (g := lead) (fun k hk => up1_ne _ (by omega) _)]
    by_cases e : q = f
    · subst e
      have := h2 (by omega)
      rw [up1_same] at this
      exact h.2.2.2 j' p0 this q (by omega) (fun k hk => by have := h1 k hk; rwa [up1_ne _ (by omega)] at this) (fun h => by omega) l hl hm
    · have a := h2 (by omega)
      rw [up1_ne _ (by omega)] at a
      have b := (h.2.1 q (by omega)).2
      exact h.2.2.2 j' p0 (by omega) q (by omega) (fun k hk => by have := h1 k hk; rwa [up1_ne _ (by omega)] at this) (fun _ => a) l hl hm
theorem leads_non {vs : List Vec} {j : Int} {lead : Int → Int} {f : Nat} (h : isLeads vs j lead f) (hz : ∀ l : List Vec, l.length = f + 1 → (∀ v, v ∈ l → v ∈ vs) → det l (j :: plist lead f) = 0) : isLeads vs (j + 1) lead f := by
  refine ⟨h.1, fun k hk => by have := h.2.1 k hk; omega, h.2.2.1, fun j' p0 p1 q hq h1 h2 l hl hm => ?_⟩
  by_cases e : j' = j
  · subst e
    by_cases e2 : q = f
    · subst e2; exact hz l hl hm
    · have a := h2 (by omega)
      have b := (h.2.1 q (by omega)).2
      omega
  · exact h.2.2.2 j' p0 (by omega) q hq h1 h2 l hl hm
theorem leads_end {vs : List Vec} {j C : Int} {lead : Int → Int} {f : Nat} (h : isLeads vs j lead f) (hj : j ≤ C) (hf : vs.length ≤ f) : isLeads vs C lead f := by
  refine ⟨h.1, fun k hk => by have := h.2.1 k hk; omega, h.2.2.1, fun j' p0 p1 q hq h1 h2 l hl hm => ?_⟩
  by_cases e : j' < j
  · exact h.2.2.2 j' p0 e q hq h1 h2 l hl hm
  · by_cases e2 : q = f
    · subst e2
      exact det_dup (fun hn => by have := (nodup_in hn hm).1; omega) _
    · have a := h2 (by omega)
      have b := (h.2.1 q (by omega)).2
      omega
theorem leads_none {vs : List Vec} (lead : Int → Int) : isLeads vs 0 lead 0 :=
  ⟨fun i k _ h => by omega, fun k h => by omega, ⟨[], rfl, fun v h => by simp at h, by simp [plist, det]⟩, fun j p0 p1 => by omega⟩
