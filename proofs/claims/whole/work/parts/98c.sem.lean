/-! THE LAW: what calls of the class come to -/
section SC
variable {xs : List Int32} {fr lo : Nat} {w0 w : ax_W} {s : mo_S} {v : Nat → Int} {L Z : Nat}
theorem aC5 {m : Int} (h0 : 0 ≤ m) (h1 : m < 6) : (absC s).2.1 m = s 2 m := rf_5 s h0 h1
theorem aC6 {m : Int} (h0 : 0 ≤ m) (h1 : m < 6) : (absC s).2.2.1 m = s 3 m := rf_6 s h0 h1
theorem aC4 {x : Int} (h0 : 0 ≤ x) (h1 : x < 216) : (absC s).1 x = s 1 x := rf_4 s h0 h1
theorem CO_congr {a a' : Int} {α α' : AB} {u : Option Value} {w' : ax_W} (h : CO w0 L Z a α u w') (e : a = a') (e' : α = α') : CO w0 L Z a' α' u w' := e ▸ e' ▸ h
theorem sC_combine {to a x b y : Int} (hC : CW w0 w s v L Z) (hok : okC s v) (h : (0 ≤ to ∧ to < 6) ∧ (0 ≤ a ∧ a < 6) ∧ (0 ≤ b ∧ b < 6)) (x0 : -2147483648 ≤ x) (x1 : x < 2147483648) (y0 : -2147483648 ≤ y) (y1 : y < 2147483648) (hfr : 9 ≤ fr) (hlo : 400 ≤ lo) :
    fin xs fr lo 33 0 (ax_ent [.ref 0, .int (jI to), .int (jI a), .int (jI x), .int (jI b), .int (jI y)] 11) [] w (Ret fun u w' => ∃ c α', m_combine (absC s) to a x b y c α' ∧ (-2147483648 ≤ c ∧ c < 2147483648) ∧ CO w0 L Z c α' u w') := by
  have rto5 := aC5 (s := s) h.1.1 h.1.2
  have rto6 := aC6 (s := s) h.1.1 h.1.2
  have ra5 := aC5 (s := s) h.2.1.1 h.2.1.2
  have ra6 := aC6 (s := s) h.2.1.1 h.2.1.2
  have rb5 := aC5 (s := s) h.2.2.1 h.2.2.2
  have rb6 := aC6 (s := s) h.2.2.1 h.2.2.2
  obtain ⟨to, rfl⟩ := Int.eq_ofNat_of_zero_le (show 0 ≤ to by omega)
  obtain ⟨a, rfl⟩ := Int.eq_ofNat_of_zero_le (show 0 ≤ a by omega)
  obtain ⟨b, rfl⟩ := Int.eq_ofNat_of_zero_le (show 0 ≤ b by omega)
  have dto := rf_dim hok.1 (show to < 6 by omega)
  obtain ⟨dto1, dto2, dto3, dto4⟩ := dto
  have da := rf_dim hok.1 (show a < 6 by omega)
  obtain ⟨da1, da2, da3, da4⟩ := da
  have db := rf_dim hok.1 (show b < 6 by omega)
  obtain ⟨db1, db2, db3, db4⟩ := db
  refine fi_mono (de_combine hC hok (by omega) (by omega) (by omega) x0 x1 y0 y1 (by omega) (by omega)) (fun o w' ⟨u, e, hh⟩ => ⟨u, e, ?_⟩)
  unfold m_combine
  rw [ra5, ra6, rb5, rb6]
  rcases hh with ⟨h1, h2⟩ | ⟨h1, h2⟩
  · exact ⟨-2, _, Or.inl ⟨h1, rfl, rfl⟩, by omega, CO_same h2⟩
  · obtain ⟨c, α', g1, g2, g3⟩ := CO_made (h := fun i j => (absC s).1 (36 * a + 6 * i + j) * x + (absC s).1 (36 * b + 6 * i + j) * y) (fun i j i0 i1 j0 j1 => by rw [aC4 (by omega) (by omega), aC4 (by omega) (by omega)]) h2
    exact ⟨c, α', Or.inr ⟨h1, g1⟩, by omega, g3⟩
theorem sC_multiply {to a b : Int} (hC : CW w0 w s v L Z) (hok : okC s v) (h : (0 ≤ to ∧ to < 6) ∧ (0 ≤ a ∧ a < 6) ∧ (0 ≤ b ∧ b < 6)) (hfr : 9 ≤ fr) (hlo : 400 ≤ lo) :
    fin xs fr lo 43 0 (ax_ent [.ref 0, .int (jI to), .int (jI a), .int (jI b)] 10) [] w (Ret fun u w' => ∃ c α', m_multiply (absC s) to a b c α' ∧ (-2147483648 ≤ c ∧ c < 2147483648) ∧ CO w0 L Z c α' u w') := by
  have rto5 := aC5 (s := s) h.1.1 h.1.2
  have rto6 := aC6 (s := s) h.1.1 h.1.2
  have ra5 := aC5 (s := s) h.2.1.1 h.2.1.2
  have ra6 := aC6 (s := s) h.2.1.1 h.2.1.2
  have rb5 := aC5 (s := s) h.2.2.1 h.2.2.2
  have rb6 := aC6 (s := s) h.2.2.1 h.2.2.2
  obtain ⟨to, rfl⟩ := Int.eq_ofNat_of_zero_le (show 0 ≤ to by omega)
  obtain ⟨a, rfl⟩ := Int.eq_ofNat_of_zero_le (show 0 ≤ a by omega)
  obtain ⟨b, rfl⟩ := Int.eq_ofNat_of_zero_le (show 0 ≤ b by omega)
  have dto := rf_dim hok.1 (show to < 6 by omega)
  obtain ⟨dto1, dto2, dto3, dto4⟩ := dto
  have da := rf_dim hok.1 (show a < 6 by omega)
  obtain ⟨da1, da2, da3, da4⟩ := da
  have db := rf_dim hok.1 (show b < 6 by omega)
  obtain ⟨db1, db2, db3, db4⟩ := db
  refine fi_mono (de_multiply hC hok (by omega) (by omega) (by omega) (by omega) (by omega)) (fun o w' ⟨u, e, hh⟩ => ⟨u, e, ?_⟩)
  unfold m_multiply
  rw [ra5, ra6, rb5, rb6]
  rcases hh with ⟨h1, h2⟩ | ⟨h1, h2⟩
  · exact ⟨-2, _, Or.inl ⟨h1, rfl, rfl⟩, by omega, CO_same h2⟩
  · obtain ⟨c, α', g1, g2, g3⟩ := CO_made (h := fun i j => sumP (fun k => (absC s).1 (36 * a + 6 * i + k) * (absC s).1 (36 * b + 6 * k + j)) (s 3 a).toNat) (fun i j i0 i1 j0 j1 => sumP_congr (fun k hk => by rw [aC4 (by omega) (by omega), aC4 (by omega) (by omega)])) h2
    exact ⟨c, α', Or.inr ⟨h1, g1⟩, by omega, g3⟩
theorem sC_rank {m : Int} (hC : CW w0 w s v L Z) (hok : okC s v) (h : (0 ≤ m ∧ m < 6)) (hfr : 9 ≤ fr) (hlo : 400 ≤ lo) :
    fin xs fr lo 47 0 (ax_ent [.ref 0, .int (jI m)] 2) [] w (Ret fun u w' => ∃ c α', m_rank (absC s) m c α' ∧ (-2147483648 ≤ c ∧ c < 2147483648) ∧ CO w0 L Z c α' u w') := by
  have rm5 := aC5 (s := s) h.1 h.2
  have rm6 := aC6 (s := s) h.1 h.2
  obtain ⟨m, rfl⟩ := Int.eq_ofNat_of_zero_le (show 0 ≤ m by omega)
  have dm := rf_dim hok.1 (show m < 6 by omega)
  obtain ⟨dm1, dm2, dm3, dm4⟩ := dm
  refine fi_mono (de_rank hC hok (by omega) (by omega) (by omega)) (fun o w' ⟨u, e, q, h1, h2⟩ => ⟨u, e, ?_⟩)
  have hq := h1.1
  refine ⟨q, _, ⟨q, ?_, rfl, rfl⟩, by omega, CO_same h2⟩
  rw [rm5, rm6]; exact h1
theorem sC_hermite {to a : Int} (hC : CW w0 w s v L Z) (hok : okC s v) (h : (0 ≤ to ∧ to < 6) ∧ (0 ≤ a ∧ a < 6)) (hfr : 9 ≤ fr) (hlo : 400 ≤ lo) :
    fin xs fr lo 56 0 (ax_ent [.ref 0, .int (jI to), .int (jI a)] 6) [] w (Ret fun u w' => ∃ c α', m_hermite (absC s) to a c α' ∧ (-2147483648 ≤ c ∧ c < 2147483648) ∧ CO w0 L Z c α' u w') := by
  have rto5 := aC5 (s := s) h.1.1 h.1.2
  have rto6 := aC6 (s := s) h.1.1 h.1.2
  have ra5 := aC5 (s := s) h.2.1 h.2.2
  have ra6 := aC6 (s := s) h.2.1 h.2.2
  obtain ⟨to, rfl⟩ := Int.eq_ofNat_of_zero_le (show 0 ≤ to by omega)
  obtain ⟨a, rfl⟩ := Int.eq_ofNat_of_zero_le (show 0 ≤ a by omega)
  have dto := rf_dim hok.1 (show to < 6 by omega)
  obtain ⟨dto1, dto2, dto3, dto4⟩ := dto
  have da := rf_dim hok.1 (show a < 6 by omega)
  obtain ⟨da1, da2, da3, da4⟩ := da
  refine fi_mono (de_hermite hC hok (by omega) (by omega) hfr hlo) (fun o w' ⟨u, e, f, lead, X, hF, hM⟩ => ⟨u, e, ?_⟩)
  have hle := isForm_le hF
  obtain ⟨c, α', g1, g2, g3⟩ := CO_made (fun _ _ _ _ _ _ => rfl) hM
  refine ⟨c, α', ⟨f, lead, X, ?_, ?_⟩, by omega, g3⟩
  · rw [ra5, ra6]; exact hF
  · rw [ra5, ra6]; exact g1
theorem sC_kernel {to a : Int} (hC : CW w0 w s v L Z) (hok : okC s v) (h : (0 ≤ to ∧ to < 6) ∧ (0 ≤ a ∧ a < 6)) (hfr : 9 ≤ fr) (hlo : 400 ≤ lo) :
    fin xs fr lo 79 0 (ax_ent [.ref 0, .int (jI to), .int (jI a)] 7) [] w (Ret fun u w' => ∃ c α', m_kernel (absC s) to a c α' ∧ (-2147483648 ≤ c ∧ c < 2147483648) ∧ CO w0 L Z c α' u w') := by
  have rto5 := aC5 (s := s) h.1.1 h.1.2
  have rto6 := aC6 (s := s) h.1.1 h.1.2
  have ra5 := aC5 (s := s) h.2.1 h.2.2
  have ra6 := aC6 (s := s) h.2.1 h.2.2
  obtain ⟨to, rfl⟩ := Int.eq_ofNat_of_zero_le (show 0 ≤ to by omega)
  obtain ⟨a, rfl⟩ := Int.eq_ofNat_of_zero_le (show 0 ≤ a by omega)
  have dto := rf_dim hok.1 (show to < 6 by omega)
  obtain ⟨dto1, dto2, dto3, dto4⟩ := dto
  have da := rf_dim hok.1 (show a < 6 by omega)
  obtain ⟨da1, da2, da3, da4⟩ := da
  refine fi_mono (de_kernel hC hok (by omega) (by omega) hfr hlo) (fun o w' ⟨u, e, f, n, lead, X, hF, hn, hM⟩ => ⟨u, e, ?_⟩)
  have hle := isForm_le hF
  have hgB : gBA (absC s) (a : Int) = gB (rf s) a := rfl
  unfold m_kernel
  rw [ra5, ra6, hgB]
  rcases hM with ⟨h1, h2⟩ | ⟨h1, h2⟩
  · exact ⟨0, _, ⟨f, n, lead, X, hF, hn, Or.inl ⟨h1, rfl, rfl⟩⟩, by omega, CO_same h2⟩
  · obtain ⟨c, α', g1, g2, g3⟩ := CO_made (fun _ _ _ _ _ _ => rfl) h2
    exact ⟨c, α', ⟨f, n, lead, X, hF, hn, Or.inr ⟨h1, g1⟩⟩, by omega, g3⟩
theorem sC_solve {to a b : Int} (hC : CW w0 w s v L Z) (hok : okC s v) (h : (0 ≤ to ∧ to < 6) ∧ (0 ≤ a ∧ a < 6) ∧ (0 ≤ b ∧ b < 6)) (hfr : 9 ≤ fr) (hlo : 400 ≤ lo) :
    fin xs fr lo 81 0 (ax_ent [.ref 0, .int (jI to), .int (jI a), .int (jI b)] 10) [] w (Ret fun u w' => ∃ c α', m_solve (absC s) to a b c α' ∧ (-2147483648 ≤ c ∧ c < 2147483648) ∧ CO w0 L Z c α' u w') := by
  have rto5 := aC5 (s := s) h.1.1 h.1.2
  have rto6 := aC6 (s := s) h.1.1 h.1.2
  have ra5 := aC5 (s := s) h.2.1.1 h.2.1.2
  have ra6 := aC6 (s := s) h.2.1.1 h.2.1.2
  have rb5 := aC5 (s := s) h.2.2.1 h.2.2.2
  have rb6 := aC6 (s := s) h.2.2.1 h.2.2.2
  obtain ⟨to, rfl⟩ := Int.eq_ofNat_of_zero_le (show 0 ≤ to by omega)
  obtain ⟨a, rfl⟩ := Int.eq_ofNat_of_zero_le (show 0 ≤ a by omega)
  obtain ⟨b, rfl⟩ := Int.eq_ofNat_of_zero_le (show 0 ≤ b by omega)
  have dto := rf_dim hok.1 (show to < 6 by omega)
  obtain ⟨dto1, dto2, dto3, dto4⟩ := dto
  have da := rf_dim hok.1 (show a < 6 by omega)
  obtain ⟨da1, da2, da3, da4⟩ := da
  have db := rf_dim hok.1 (show b < 6 by omega)
  obtain ⟨db1, db2, db3, db4⟩ := db
  refine fi_mono (de_solve hC hok (by omega) (by omega) (by omega) hfr hlo) (fun o w' ⟨u, e, hh⟩ => ⟨u, e, ?_⟩)
  have hgB : gBA (absC s) (a : Int) = gB (rf s) a := rfl
  unfold m_solve
  rw [ra5, ra6, rb5, rb6, hgB]
  rcases hh with ⟨h1, h2⟩ | ⟨h1, f, n, lead, X, hF, hn, h0, hM⟩
  · exact ⟨-2, _, Or.inl ⟨h1, rfl, rfl⟩, by omega, CO_same h2⟩
  · rcases hM with ⟨q1, q2⟩ | ⟨x, q1, q2⟩
    · exact ⟨0, _, Or.inr ⟨h1, f, n, lead, X, hF, hn, h0, Or.inl ⟨q1, rfl, rfl⟩⟩, by omega, CO_same q2⟩
    · obtain ⟨c, α', g1, g2, g3⟩ := CO_made (fun _ _ _ _ _ _ => rfl) q2
      exact ⟨c, α', Or.inr ⟨h1, f, n, lead, X, hF, hn, h0, Or.inr ⟨x, q1, g1⟩⟩, by omega, g3⟩
theorem sC_determinant {m : Int} (hC : CW w0 w s v L Z) (hok : okC s v) (h : (0 ≤ m ∧ m < 6)) (hfr : 9 ≤ fr) (hlo : 400 ≤ lo) :
    fin xs fr lo 84 0 (ax_ent [.ref 0, .int (jI m)] 3) [] w (Ret fun u w' => ∃ c α', m_determinant (absC s) m c α' ∧ (-2147483648 ≤ c ∧ c < 2147483648) ∧ CO w0 L Z c α' u w') := by
  have rm5 := aC5 (s := s) h.1 h.2
  have rm6 := aC6 (s := s) h.1 h.2
  obtain ⟨m, rfl⟩ := Int.eq_ofNat_of_zero_le (show 0 ≤ m by omega)
  have dm := rf_dim hok.1 (show m < 6 by omega)
  obtain ⟨dm1, dm2, dm3, dm4⟩ := dm
  refine fi_mono (de_determinant hC hok (by omega) (by omega) (by omega)) (fun o w' ⟨u, e, hh⟩ => ⟨u, e, ?_⟩)
  have hgm : gmA (absC s) (m : Int) = gm (rf s) m := rfl
  unfold m_determinant
  rw [rm5, rm6, hgm]
  rcases hh with ⟨h1, h2⟩ | ⟨h1, d, hd, h2⟩
  · exact ⟨-2, _, Or.inl ⟨h1, rfl, rfl⟩, by omega, CO_same h2⟩
  · obtain ⟨hl1, hc⟩ := CO_print h2
    rw [hd] at hl1 hc
    exact ⟨_, _, Or.inr ⟨h1, rfl, rfl⟩, by omega, hc⟩
theorem sC_divisor {m k : Int} (hC : CW w0 w s v L Z) (hok : okC s v) (h : (0 ≤ m ∧ m < 6)) (k0 : -2147483648 ≤ k) (k1 : k < 2147483648) (hfr : 9 ≤ fr) (hlo : 400 ≤ lo) :
    fin xs fr lo 92 0 (ax_ent [.ref 0, .int (jI m), .int (jI k)] 4) [] w (Ret fun u w' => ∃ c α', m_divisor (absC s) m k c α' ∧ (-2147483648 ≤ c ∧ c < 2147483648) ∧ CO w0 L Z c α' u w') := by
  have rm5 := aC5 (s := s) h.1 h.2
  have rm6 := aC6 (s := s) h.1 h.2
  obtain ⟨m, rfl⟩ := Int.eq_ofNat_of_zero_le (show 0 ≤ m by omega)
  have dm := rf_dim hok.1 (show m < 6 by omega)
  obtain ⟨dm1, dm2, dm3, dm4⟩ := dm
  refine fi_mono (de_divisor hC hok (by omega) k0 k1 (by omega) (by omega)) (fun o w' ⟨u, e, hh⟩ => ⟨u, e, ?_⟩)
  have hgm : gmA (absC s) (m : Int) = gm (rf s) m := rfl
  unfold m_divisor
  rw [rm5, rm6, hgm]
  rcases hh with ⟨h1, h2⟩ | ⟨h1, d, hd, h2⟩
  · exact ⟨-1, _, Or.inl ⟨h1, rfl, rfl⟩, by omega, CO_same h2⟩
  · obtain ⟨hl1, hc⟩ := CO_print h2
    exact ⟨_, _, Or.inr ⟨h1, d, hd, rfl, rfl⟩, by omega, hc⟩
theorem sC_factor {m k : Int} (hC : CW w0 w s v L Z) (hok : okC s v) (h : (0 ≤ m ∧ m < 6)) (k0 : -2147483648 ≤ k) (k1 : k < 2147483648) (hfr : 9 ≤ fr) (hlo : 400 ≤ lo) :
    fin xs fr lo 97 0 (ax_ent [.ref 0, .int (jI m), .int (jI k)] 4) [] w (Ret fun u w' => ∃ c α', m_factor (absC s) m k c α' ∧ (-2147483648 ≤ c ∧ c < 2147483648) ∧ CO w0 L Z c α' u w') := by
  have rm5 := aC5 (s := s) h.1 h.2
  have rm6 := aC6 (s := s) h.1 h.2
  obtain ⟨m, rfl⟩ := Int.eq_ofNat_of_zero_le (show 0 ≤ m by omega)
  have dm := rf_dim hok.1 (show m < 6 by omega)
  obtain ⟨dm1, dm2, dm3, dm4⟩ := dm
  refine fi_mono (de_factor hC hok (by omega) k0 k1 (by omega) (by omega)) (fun o w' ⟨u, e, hh⟩ => ⟨u, e, ?_⟩)
  have hgm : gmA (absC s) (m : Int) = gm (rf s) m := rfl
  unfold m_factor
  rw [rm5, rm6, hgm]
  rcases hh with ⟨h1, h2⟩ | ⟨h1, d, hd, h2 | ⟨h2, e', he', h3⟩⟩
  · exact ⟨-1, _, Or.inl ⟨h1, rfl, rfl⟩, by omega, CO_same h2⟩
  · exact ⟨-1, _, Or.inr ⟨h1, d, hd, Or.inl ⟨h2.1, rfl, rfl⟩⟩, by omega, CO_same h2.2⟩
  · obtain ⟨hl1, hc⟩ := CO_print h3
    exact ⟨_, _, Or.inr ⟨h1, d, hd, Or.inr ⟨h2, e', he', rfl, rfl⟩⟩, by omega, hc⟩
theorem sC_inverse {m i j : Int} (hC : CW w0 w s v L Z) (hok : okC s v) (h : (0 ≤ m ∧ m < 6)) (i0 : -2147483648 ≤ i) (i1 : i < 2147483648) (j0 : -2147483648 ≤ j) (j1 : j < 2147483648) (hfr : 9 ≤ fr) (hlo : 400 ≤ lo) :
    fin xs fr lo 99 0 (ax_ent [.ref 0, .int (jI m), .int (jI i), .int (jI j)] 6) [] w (Ret fun u w' => ∃ c α', m_inverse (absC s) m i j c α' ∧ (-2147483648 ≤ c ∧ c < 2147483648) ∧ CO w0 L Z c α' u w') := by
  have rm5 := aC5 (s := s) h.1 h.2
  have rm6 := aC6 (s := s) h.1 h.2
  obtain ⟨m, rfl⟩ := Int.eq_ofNat_of_zero_le (show 0 ≤ m by omega)
  have dm := rf_dim hok.1 (show m < 6 by omega)
  obtain ⟨dm1, dm2, dm3, dm4⟩ := dm
  refine fi_mono (de_inverse hC hok (by omega) i0 i1 j0 j1 (by omega) (by omega)) (fun o w' ⟨u, e, hh⟩ => ⟨u, e, ?_⟩)
  have hgm : gmA (absC s) (m : Int) = gm (rf s) m := rfl
  unfold m_inverse
  rw [rm5, rm6, hgm]
  rcases hh with ⟨h1, h2⟩ | ⟨h1, h2, h3⟩ | ⟨h1, h2, d, a, hd, ha, h3 | ⟨h3, h4⟩⟩
  · exact ⟨-2, _, Or.inl ⟨h1, rfl, rfl⟩, by omega, CO_same h2⟩
  · exact ⟨-1, _, Or.inr (Or.inl ⟨h1, h2, rfl, rfl⟩), by omega, CO_same h3⟩
  · exact ⟨-1, _, Or.inr (Or.inr ⟨h1, h2, d, a, hd, ha, Or.inl ⟨h3.1, rfl, rfl⟩⟩), by omega, CO_same h3.2⟩
  · obtain ⟨hl1, hc⟩ := CO_print h4
    exact ⟨_, _, Or.inr (Or.inr ⟨h1, h2, d, a, hd, ha, Or.inr ⟨h3, rfl, rfl⟩⟩), by omega, hc⟩
theorem sC_characteristic {m k : Int} (hC : CW w0 w s v L Z) (hok : okC s v) (h : (0 ≤ m ∧ m < 6)) (k0 : -2147483648 ≤ k) (k1 : k < 2147483648) (hfr : 9 ≤ fr) (hlo : 400 ≤ lo) :
    fin xs fr lo 105 0 (ax_ent [.ref 0, .int (jI m), .int (jI k)] 5) [] w (Ret fun u w' => ∃ c α', m_characteristic (absC s) m k c α' ∧ (-2147483648 ≤ c ∧ c < 2147483648) ∧ CO w0 L Z c α' u w') := by
  have rm5 := aC5 (s := s) h.1 h.2
  have rm6 := aC6 (s := s) h.1 h.2
  obtain ⟨m, rfl⟩ := Int.eq_ofNat_of_zero_le (show 0 ≤ m by omega)
  have dm := rf_dim hok.1 (show m < 6 by omega)
  obtain ⟨dm1, dm2, dm3, dm4⟩ := dm
  refine fi_mono (de_characteristic hC hok (by omega) k0 k1 (by omega) (by omega)) (fun o w' ⟨u, e, hh⟩ => ⟨u, e, ?_⟩)
  have hgm : gmA (absC s) (m : Int) = gm (rf s) m := rfl
  unfold m_characteristic
  rw [rm5, rm6, hgm]
  rcases hh with ⟨h1, h2⟩ | ⟨h1, h2, h3⟩ | ⟨h1, h2, d, hd, h3⟩
  · exact ⟨-2, _, Or.inl ⟨h1, rfl, rfl⟩, by omega, CO_same h2⟩
  · exact ⟨-1, _, Or.inr (Or.inl ⟨h1, h2, rfl, rfl⟩), by omega, CO_same h3⟩
  · obtain ⟨hl1, hc⟩ := CO_print h3
    rw [hd] at hl1 hc
    exact ⟨_, _, Or.inr (Or.inr ⟨h1, h2, rfl, rfl⟩), by omega, hc⟩
theorem sC_check {m : Int} (hC : CW w0 w s v L Z) (hok : okC s v) (h : (0 ≤ m ∧ m < 6)) (hfr : 9 ≤ fr) (hlo : 400 ≤ lo) :
    fin xs fr lo 110 0 (ax_ent [.ref 0, .int (jI m)] 3) [] w (Ret fun u w' => ∃ c α', m_check (absC s) m c α' ∧ (-2147483648 ≤ c ∧ c < 2147483648) ∧ CO w0 L Z c α' u w') := by
  have rm5 := aC5 (s := s) h.1 h.2
  have rm6 := aC6 (s := s) h.1 h.2
  obtain ⟨m, rfl⟩ := Int.eq_ofNat_of_zero_le (show 0 ≤ m by omega)
  have dm := rf_dim hok.1 (show m < 6 by omega)
  obtain ⟨dm1, dm2, dm3, dm4⟩ := dm
  refine fi_mono (de_check hC hok (by omega) (by omega) (by omega)) (fun o w' ⟨u, e, hh⟩ => ⟨u, e, ?_⟩)
  exact ⟨1, _, ⟨rfl, rfl⟩, by omega, CO_same hh⟩
end SC
/-! of the reference -/
section SR
variable {xs : List Int32} {fr lo : Nat} {w : ax_W} {s : mo_S} {r : Int → Int}
theorem sR_combine {to a x b y : Int} (hw : RW w w s) (hM : MI s) (hB : Bg s r) (h5 : 0 ≤ s 0 5) (h : (0 ≤ to ∧ to < 6) ∧ (0 ≤ a ∧ a < 6) ∧ (0 ≤ b ∧ b < 6)) (to0 : -2147483648 ≤ to) (to1 : to < 2147483648) (a0 : -2147483648 ≤ a) (a1 : a < 2147483648) (x0 : -2147483648 ≤ x) (x1 : x < 2147483648) (b0 : -2147483648 ≤ b) (b1 : b < 2147483648) (y0 : -2147483648 ≤ y) (y1 : y < 2147483648) (hfr : 10 ≤ fr) (hlo : 320 ≤ lo) :
    fin xs fr lo 127 0 (ax_ent [.ref 425, .int (jI to), .int (jI a), .int (jI x), .int (jI b), .int (jI y)] 8) [] w (Ret fun u w' => ∃ c α', m_combine (absR s) to a x b y c α' ∧ RO w 0 c α' u w') := by
  refine fi_mono (c_combine (by omega) (by omega) hw hM hB to0 to1 a0 a1 b0 b1 x0 x1 y0 y1) (fun o w' ⟨u, e, hh⟩ => ⟨u, e, ?_⟩)
  rcases hh with ⟨h1, h2⟩ | ⟨_, h1, h2, h3⟩ | ⟨_, h1, h2⟩
  · exact absurd h h1
  · exact ⟨-2, _, Or.inl ⟨h1, rfl, rfl⟩, RX_up 0 h2 hB h5, h3⟩
  · obtain ⟨c, α', g1, g2⟩ := RO_made h2 h5
    exact ⟨c, α', Or.inr ⟨h1, g1⟩, g2⟩
theorem sR_combineT {to a x b y : Int} (hw : RW w w s) (hM : MI s) (hB : Bg s r) (h5 : 0 ≤ s 0 5) (h : ¬ ((0 ≤ to ∧ to < 6) ∧ (0 ≤ a ∧ a < 6) ∧ (0 ≤ b ∧ b < 6))) (to0 : -2147483648 ≤ to) (to1 : to < 2147483648) (a0 : -2147483648 ≤ a) (a1 : a < 2147483648) (x0 : -2147483648 ≤ x) (x1 : x < 2147483648) (b0 : -2147483648 ≤ b) (b1 : b < 2147483648) (y0 : -2147483648 ≤ y) (y1 : y < 2147483648) (hfr : 10 ≤ fr) (hlo : 320 ≤ lo) :
    fin xs fr lo 127 0 (ax_ent [.ref 425, .int (jI to), .int (jI a), .int (jI x), .int (jI b), .int (jI y)] 8) [] w (Ret fun u w' => RO w 1 0 (absR s) u w') := by
  refine fi_mono (c_combine (by omega) (by omega) hw hM hB to0 to1 a0 a1 b0 b1 x0 x1 y0 y1) (fun o w' ⟨u, e, hh⟩ => ⟨u, e, ?_⟩)
  rcases hh with ⟨_, h1, h2⟩ | hh | hh
  · exact ⟨RX_up 1 h1 hB h5, h2⟩
  · exact absurd hh.1 h
  · exact absurd hh.1 h
theorem sR_multiply {to a b : Int} (hw : RW w w s) (hM : MI s) (hB : Bg s r) (h5 : 0 ≤ s 0 5) (h : (0 ≤ to ∧ to < 6) ∧ (0 ≤ a ∧ a < 6) ∧ (0 ≤ b ∧ b < 6)) (to0 : -2147483648 ≤ to) (to1 : to < 2147483648) (a0 : -2147483648 ≤ a) (a1 : a < 2147483648) (b0 : -2147483648 ≤ b) (b1 : b < 2147483648) (hfr : 10 ≤ fr) (hlo : 320 ≤ lo) :
    fin xs fr lo 141 0 (ax_ent [.ref 425, .int (jI to), .int (jI a), .int (jI b)] 7) [] w (Ret fun u w' => ∃ c α', m_multiply (absR s) to a b c α' ∧ RO w 0 c α' u w') := by
  refine fi_mono (c_multiply (by omega) (by omega) hw hM hB to0 to1 a0 a1 b0 b1) (fun o w' ⟨u, e, hh⟩ => ⟨u, e, ?_⟩)
  rcases hh with ⟨h1, h2⟩ | ⟨_, h1, h2, h3⟩ | ⟨_, h1, h2⟩
  · exact absurd h h1
  · exact ⟨-2, _, Or.inl ⟨h1, rfl, rfl⟩, RX_up 0 h2 hB h5, h3⟩
  · obtain ⟨c, α', g1, g2⟩ := RO_made h2 h5
    exact ⟨c, α', Or.inr ⟨h1, g1⟩, g2⟩
theorem sR_multiplyT {to a b : Int} (hw : RW w w s) (hM : MI s) (hB : Bg s r) (h5 : 0 ≤ s 0 5) (h : ¬ ((0 ≤ to ∧ to < 6) ∧ (0 ≤ a ∧ a < 6) ∧ (0 ≤ b ∧ b < 6))) (to0 : -2147483648 ≤ to) (to1 : to < 2147483648) (a0 : -2147483648 ≤ a) (a1 : a < 2147483648) (b0 : -2147483648 ≤ b) (b1 : b < 2147483648) (hfr : 10 ≤ fr) (hlo : 320 ≤ lo) :
    fin xs fr lo 141 0 (ax_ent [.ref 425, .int (jI to), .int (jI a), .int (jI b)] 7) [] w (Ret fun u w' => RO w 1 0 (absR s) u w') := by
  refine fi_mono (c_multiply (by omega) (by omega) hw hM hB to0 to1 a0 a1 b0 b1) (fun o w' ⟨u, e, hh⟩ => ⟨u, e, ?_⟩)
  rcases hh with ⟨_, h1, h2⟩ | hh | hh
  · exact ⟨RX_up 1 h1 hB h5, h2⟩
  · exact absurd hh.1 h
  · exact absurd hh.1 h
theorem sR_rank {m : Int} (hw : RW w w s) (hM : MI s) (hB : Bg s r) (h5 : 0 ≤ s 0 5) (h : (0 ≤ m ∧ m < 6)) (m0 : -2147483648 ≤ m) (m1 : m < 2147483648) (hfr : 10 ≤ fr) (hlo : 320 ≤ lo) :
    fin xs fr lo 143 0 (ax_ent [.ref 425, .int (jI m)] 2) [] w (Ret fun u w' => ∃ c α', m_rank (absR s) m c α' ∧ RO w 0 c α' u w') := by
  refine fi_mono (c_rank (by omega) (by omega) hw hM hB m0 m1) (fun o w' ⟨u, e, hh⟩ => ⟨u, e, ?_⟩)
  rcases hh with ⟨h1, h2⟩ | ⟨_, h1, q, h2, h3⟩
  · exact absurd h h1
  · exact ⟨q, _, ⟨q, h3, rfl, rfl⟩, RX_pub h1 h5, h2⟩
theorem sR_rankT {m : Int} (hw : RW w w s) (hM : MI s) (hB : Bg s r) (h5 : 0 ≤ s 0 5) (h : ¬ ((0 ≤ m ∧ m < 6))) (m0 : -2147483648 ≤ m) (m1 : m < 2147483648) (hfr : 10 ≤ fr) (hlo : 320 ≤ lo) :
    fin xs fr lo 143 0 (ax_ent [.ref 425, .int (jI m)] 2) [] w (Ret fun u w' => RO w 1 0 (absR s) u w') := by
  refine fi_mono (c_rank (by omega) (by omega) hw hM hB m0 m1) (fun o w' ⟨u, e, hh⟩ => ⟨u, e, ?_⟩)
  rcases hh with ⟨_, h1, h2⟩ | hh
  · exact ⟨RX_pub h1 h5, h2⟩
  · exact absurd hh.1 h
theorem sR_hermite {to a : Int} (hw : RW w w s) (hM : MI s) (hB : Bg s r) (h5 : 0 ≤ s 0 5) (h : (0 ≤ to ∧ to < 6) ∧ (0 ≤ a ∧ a < 6)) (to0 : -2147483648 ≤ to) (to1 : to < 2147483648) (a0 : -2147483648 ≤ a) (a1 : a < 2147483648) (hfr : 10 ≤ fr) (hlo : 320 ≤ lo) :
    fin xs fr lo 157 0 (ax_ent [.ref 425, .int (jI to), .int (jI a)] 5) [] w (Ret fun u w' => ∃ c α', m_hermite (absR s) to a c α' ∧ RO w 0 c α' u w') := by
  refine fi_mono (c_hermite (by omega) (by omega) hw hM hB to0 to1 a0 a1) (fun o w' ⟨u, e, hh⟩ => ⟨u, e, ?_⟩)
  rcases hh with ⟨h1, h2⟩ | ⟨_, f, lead, X, h1, h2⟩
  · exact absurd h h1
  · obtain ⟨c, α', g1, g2⟩ := RO_madeF h2 h5
    exact ⟨c, α', ⟨f, lead, X, h1, g1⟩, g2⟩
theorem sR_hermiteT {to a : Int} (hw : RW w w s) (hM : MI s) (hB : Bg s r) (h5 : 0 ≤ s 0 5) (h : ¬ ((0 ≤ to ∧ to < 6) ∧ (0 ≤ a ∧ a < 6))) (to0 : -2147483648 ≤ to) (to1 : to < 2147483648) (a0 : -2147483648 ≤ a) (a1 : a < 2147483648) (hfr : 10 ≤ fr) (hlo : 320 ≤ lo) :
    fin xs fr lo 157 0 (ax_ent [.ref 425, .int (jI to), .int (jI a)] 5) [] w (Ret fun u w' => RO w 1 0 (absR s) u w') := by
  refine fi_mono (c_hermite (by omega) (by omega) hw hM hB to0 to1 a0 a1) (fun o w' ⟨u, e, hh⟩ => ⟨u, e, ?_⟩)
  rcases hh with ⟨_, h1, h2⟩ | hh
  · exact ⟨RX_up 1 h1 hB h5, h2⟩
  · exact absurd hh.1 h
theorem sR_kernel {to a : Int} (hw : RW w w s) (hM : MI s) (hB : Bg s r) (h5 : 0 ≤ s 0 5) (h : (0 ≤ to ∧ to < 6) ∧ (0 ≤ a ∧ a < 6)) (to0 : -2147483648 ≤ to) (to1 : to < 2147483648) (a0 : -2147483648 ≤ a) (a1 : a < 2147483648) (hfr : 10 ≤ fr) (hlo : 320 ≤ lo) :
    fin xs fr lo 168 0 (ax_ent [.ref 425, .int (jI to), .int (jI a)] 7) [] w (Ret fun u w' => ∃ c α', m_kernel (absR s) to a c α' ∧ RO w 0 c α' u w') := by
  refine fi_mono (c_kernel (by omega) (by omega) hw hM hB to0 to1 a0 a1) (fun o w' ⟨u, e, hh⟩ => ⟨u, e, ?_⟩)
  rcases hh with ⟨h1, h2⟩ | ⟨_, f, n, lead, X, h1, h2, h3⟩
  · exact absurd h h1
  · rcases h3 with ⟨q1, q2, q3⟩ | ⟨q1, q2⟩
    · exact ⟨0, _, ⟨f, n, lead, X, h1, h2, Or.inl ⟨q1, rfl, rfl⟩⟩, RX_pub q2 h5, q3⟩
    · obtain ⟨c, α', g1, g2⟩ := RO_madeF q2 h5
      exact ⟨c, α', ⟨f, n, lead, X, h1, h2, Or.inr ⟨q1, g1⟩⟩, g2⟩
theorem sR_kernelT {to a : Int} (hw : RW w w s) (hM : MI s) (hB : Bg s r) (h5 : 0 ≤ s 0 5) (h : ¬ ((0 ≤ to ∧ to < 6) ∧ (0 ≤ a ∧ a < 6))) (to0 : -2147483648 ≤ to) (to1 : to < 2147483648) (a0 : -2147483648 ≤ a) (a1 : a < 2147483648) (hfr : 10 ≤ fr) (hlo : 320 ≤ lo) :
    fin xs fr lo 168 0 (ax_ent [.ref 425, .int (jI to), .int (jI a)] 7) [] w (Ret fun u w' => RO w 1 0 (absR s) u w') := by
  refine fi_mono (c_kernel (by omega) (by omega) hw hM hB to0 to1 a0 a1) (fun o w' ⟨u, e, hh⟩ => ⟨u, e, ?_⟩)
  rcases hh with ⟨_, h1, h2⟩ | hh
  · exact ⟨RX_up 1 h1 hB h5, h2⟩
  · exact absurd hh.1 h
theorem sR_solve {to a b : Int} (hw : RW w w s) (hM : MI s) (hB : Bg s r) (h5 : 0 ≤ s 0 5) (h : (0 ≤ to ∧ to < 6) ∧ (0 ≤ a ∧ a < 6) ∧ (0 ≤ b ∧ b < 6)) (to0 : -2147483648 ≤ to) (to1 : to < 2147483648) (a0 : -2147483648 ≤ a) (a1 : a < 2147483648) (b0 : -2147483648 ≤ b) (b1 : b < 2147483648) (hfr : 10 ≤ fr) (hlo : 320 ≤ lo) :
    fin xs fr lo 171 0 (ax_ent [.ref 425, .int (jI to), .int (jI a), .int (jI b)] 7) [] w (Ret fun u w' => ∃ c α', m_solve (absR s) to a b c α' ∧ RO w 0 c α' u w') := by
  refine fi_mono (c_solve (by omega) (by omega) hw hM hB to0 to1 a0 a1 b0 b1) (fun o w' ⟨u, e, hh⟩ => ⟨u, e, ?_⟩)
  rcases hh with ⟨h1, h2⟩ | ⟨_, h1, h2, h3⟩ | ⟨_, h1, f, n, lead, X, k1, k2, k0, k3⟩
  · exact absurd h h1
  · exact ⟨-2, _, Or.inl ⟨h1, rfl, rfl⟩, RX_up 0 h2 hB h5, h3⟩
  · rcases k3 with ⟨q1, q2, q3⟩ | ⟨x, q1, q2⟩
    · exact ⟨0, _, Or.inr ⟨h1, f, n, lead, X, k1, k2, k0, Or.inl ⟨q1, rfl, rfl⟩⟩, RX_pub q2 h5, q3⟩
    · obtain ⟨c, α', g1, g2⟩ := RO_madeF q2 h5
      exact ⟨c, α', Or.inr ⟨h1, f, n, lead, X, k1, k2, k0, Or.inr ⟨x, q1, g1⟩⟩, g2⟩
theorem sR_solveT {to a b : Int} (hw : RW w w s) (hM : MI s) (hB : Bg s r) (h5 : 0 ≤ s 0 5) (h : ¬ ((0 ≤ to ∧ to < 6) ∧ (0 ≤ a ∧ a < 6) ∧ (0 ≤ b ∧ b < 6))) (to0 : -2147483648 ≤ to) (to1 : to < 2147483648) (a0 : -2147483648 ≤ a) (a1 : a < 2147483648) (b0 : -2147483648 ≤ b) (b1 : b < 2147483648) (hfr : 10 ≤ fr) (hlo : 320 ≤ lo) :
    fin xs fr lo 171 0 (ax_ent [.ref 425, .int (jI to), .int (jI a), .int (jI b)] 7) [] w (Ret fun u w' => RO w 1 0 (absR s) u w') := by
  refine fi_mono (c_solve (by omega) (by omega) hw hM hB to0 to1 a0 a1 b0 b1) (fun o w' ⟨u, e, hh⟩ => ⟨u, e, ?_⟩)
  rcases hh with ⟨_, h1, h2⟩ | hh | hh
  · exact ⟨RX_up 1 h1 hB h5, h2⟩
  · exact absurd hh.1 h
  · exact absurd hh.1 h
theorem sR_determinant {m : Int} (hw : RW w w s) (hM : MI s) (hB : Bg s r) (h5 : 0 ≤ s 0 5) (h : (0 ≤ m ∧ m < 6)) (m0 : -2147483648 ≤ m) (m1 : m < 2147483648) (hfr : 10 ≤ fr) (hlo : 320 ≤ lo) :
    fin xs fr lo 172 0 (ax_ent [.ref 425, .int (jI m)] 2) [] w (Ret fun u w' => ∃ c α', m_determinant (absR s) m c α' ∧ RO w 0 c α' u w') := by
  refine fi_mono (c_determinant (by omega) (by omega) hw hM hB m0 m1) (fun o w' ⟨u, e, hh⟩ => ⟨u, e, ?_⟩)
  rcases hh with ⟨h1, h2⟩ | ⟨_, h1, h2, h3⟩ | ⟨_, h1, d, hd, h2, h3⟩
  · exact absurd h h1
  · exact ⟨-2, _, Or.inl ⟨h1, rfl, rfl⟩, RX_pub h2 h5, h3⟩
  · subst hd
    exact ⟨_, _, Or.inr ⟨h1, rfl, rfl⟩, RX_pubS h2, h3⟩
theorem sR_determinantT {m : Int} (hw : RW w w s) (hM : MI s) (hB : Bg s r) (h5 : 0 ≤ s 0 5) (h : ¬ ((0 ≤ m ∧ m < 6))) (m0 : -2147483648 ≤ m) (m1 : m < 2147483648) (hfr : 10 ≤ fr) (hlo : 320 ≤ lo) :
    fin xs fr lo 172 0 (ax_ent [.ref 425, .int (jI m)] 2) [] w (Ret fun u w' => RO w 1 0 (absR s) u w') := by
  refine fi_mono (c_determinant (by omega) (by omega) hw hM hB m0 m1) (fun o w' ⟨u, e, hh⟩ => ⟨u, e, ?_⟩)
  rcases hh with ⟨_, h1, h2⟩ | hh | hh
  · exact ⟨RX_pub h1 h5, h2⟩
  · exact absurd hh.1 h
  · exact absurd hh.1 h
theorem sR_divisor {m k : Int} (hw : RW w w s) (hM : MI s) (hB : Bg s r) (h5 : 0 ≤ s 0 5) (h : (0 ≤ m ∧ m < 6)) (m0 : -2147483648 ≤ m) (m1 : m < 2147483648) (k0 : -2147483648 ≤ k) (k1 : k < 2147483648) (hfr : 10 ≤ fr) (hlo : 320 ≤ lo) :
    fin xs fr lo 177 0 (ax_ent [.ref 425, .int (jI m), .int (jI k)] 4) [] w (Ret fun u w' => ∃ c α', m_divisor (absR s) m k c α' ∧ RO w 0 c α' u w') := by
  refine fi_mono (c_divisor (by omega) (by omega) hw hM hB m0 m1 k0 k1) (fun o w' ⟨u, e, hh⟩ => ⟨u, e, ?_⟩)
  rcases hh with ⟨h1, h2⟩ | ⟨_, h1, h2, h3⟩ | ⟨_, h1, d, hd, h2, h3⟩
  · exact absurd h h1
  · exact ⟨-1, _, Or.inl ⟨h1, rfl, rfl⟩, RX_pub h2 h5, h3⟩
  · exact ⟨_, _, Or.inr ⟨h1, d, hd, rfl, rfl⟩, RX_pubS h2, h3⟩
theorem sR_divisorT {m k : Int} (hw : RW w w s) (hM : MI s) (hB : Bg s r) (h5 : 0 ≤ s 0 5) (h : ¬ ((0 ≤ m ∧ m < 6))) (m0 : -2147483648 ≤ m) (m1 : m < 2147483648) (k0 : -2147483648 ≤ k) (k1 : k < 2147483648) (hfr : 10 ≤ fr) (hlo : 320 ≤ lo) :
    fin xs fr lo 177 0 (ax_ent [.ref 425, .int (jI m), .int (jI k)] 4) [] w (Ret fun u w' => RO w 1 0 (absR s) u w') := by
  refine fi_mono (c_divisor (by omega) (by omega) hw hM hB m0 m1 k0 k1) (fun o w' ⟨u, e, hh⟩ => ⟨u, e, ?_⟩)
  rcases hh with ⟨_, h1, h2⟩ | hh | hh
  · exact ⟨RX_pub h1 h5, h2⟩
  · exact absurd hh.1 h
  · exact absurd hh.1 h
theorem sR_factor {m k : Int} (hw : RW w w s) (hM : MI s) (hB : Bg s r) (h5 : 0 ≤ s 0 5) (h : (0 ≤ m ∧ m < 6)) (m0 : -2147483648 ≤ m) (m1 : m < 2147483648) (k0 : -2147483648 ≤ k) (k1 : k < 2147483648) (hfr : 10 ≤ fr) (hlo : 320 ≤ lo) :
    fin xs fr lo 178 0 (ax_ent [.ref 425, .int (jI m), .int (jI k)] 4) [] w (Ret fun u w' => ∃ c α', m_factor (absR s) m k c α' ∧ RO w 0 c α' u w') := by
  refine fi_mono (c_factor (by omega) (by omega) hw hM hB m0 m1 k0 k1) (fun o w' ⟨u, e, hh⟩ => ⟨u, e, ?_⟩)
  rcases hh with ⟨h1, h2⟩ | ⟨_, h1, h2, h3⟩ | ⟨_, h1, d, g, hd, ⟨h2, h3, h4⟩ | ⟨h2, h3, h4, q5, h6⟩⟩
  · exact absurd h h1
  · exact ⟨-1, _, Or.inl ⟨h1, rfl, rfl⟩, RX_pub h2 h5, h3⟩
  · exact ⟨-1, _, Or.inr ⟨h1, d, hd, Or.inl ⟨h2, rfl, rfl⟩⟩, RX_pub h3 h5, h4⟩
  · exact ⟨_, _, Or.inr ⟨h1, d, hd, Or.inr ⟨h2, g, h4, rfl, rfl⟩⟩, RX_pubS q5, h6⟩
theorem sR_factorT {m k : Int} (hw : RW w w s) (hM : MI s) (hB : Bg s r) (h5 : 0 ≤ s 0 5) (h : ¬ ((0 ≤ m ∧ m < 6))) (m0 : -2147483648 ≤ m) (m1 : m < 2147483648) (k0 : -2147483648 ≤ k) (k1 : k < 2147483648) (hfr : 10 ≤ fr) (hlo : 320 ≤ lo) :
    fin xs fr lo 178 0 (ax_ent [.ref 425, .int (jI m), .int (jI k)] 4) [] w (Ret fun u w' => RO w 1 0 (absR s) u w') := by
  refine fi_mono (c_factor (by omega) (by omega) hw hM hB m0 m1 k0 k1) (fun o w' ⟨u, e, hh⟩ => ⟨u, e, ?_⟩)
  rcases hh with ⟨_, h1, h2⟩ | hh | hh
  · exact ⟨RX_pub h1 h5, h2⟩
  · exact absurd hh.1 h
  · exact absurd hh.1 h
theorem sR_inverse {m i j : Int} (hw : RW w w s) (hM : MI s) (hB : Bg s r) (h5 : 0 ≤ s 0 5) (h : (0 ≤ m ∧ m < 6)) (m0 : -2147483648 ≤ m) (m1 : m < 2147483648) (i0 : -2147483648 ≤ i) (i1 : i < 2147483648) (j0 : -2147483648 ≤ j) (j1 : j < 2147483648) (hfr : 10 ≤ fr) (hlo : 320 ≤ lo) :
    fin xs fr lo 179 0 (ax_ent [.ref 425, .int (jI m), .int (jI i), .int (jI j)] 8) [] w (Ret fun u w' => ∃ c α', m_inverse (absR s) m i j c α' ∧ RO w 0 c α' u w') := by
  refine fi_mono (c_inverse (by omega) (by omega) hw hM hB m0 m1 i0 i1 j0 j1) (fun o w' ⟨u, e, hh⟩ => ⟨u, e, ?_⟩)
  rcases hh with ⟨h1, h2⟩ | ⟨_, h1, h2, h3⟩ | ⟨_, h1, h2, h3, h4⟩ | ⟨_, h1, h2, d, a, hd, ha, ⟨h3, h4, q5⟩ | ⟨h3, h4, q5⟩⟩
  · exact absurd h h1
  · exact ⟨-2, _, Or.inl ⟨h1, rfl, rfl⟩, RX_pub h2 h5, h3⟩
  · exact ⟨-1, _, Or.inr (Or.inl ⟨h1, h2, rfl, rfl⟩), RX_pub h3 h5, h4⟩
  · exact ⟨-1, _, Or.inr (Or.inr ⟨h1, h2, d, a, hd, ha, Or.inl ⟨h3, rfl, rfl⟩⟩), RX_pub h4 h5, q5⟩
  · exact ⟨_, _, Or.inr (Or.inr ⟨h1, h2, d, a, hd, ha, Or.inr ⟨h3, rfl, rfl⟩⟩), RX_pubS h4, q5⟩
theorem sR_inverseT {m i j : Int} (hw : RW w w s) (hM : MI s) (hB : Bg s r) (h5 : 0 ≤ s 0 5) (h : ¬ ((0 ≤ m ∧ m < 6))) (m0 : -2147483648 ≤ m) (m1 : m < 2147483648) (i0 : -2147483648 ≤ i) (i1 : i < 2147483648) (j0 : -2147483648 ≤ j) (j1 : j < 2147483648) (hfr : 10 ≤ fr) (hlo : 320 ≤ lo) :
    fin xs fr lo 179 0 (ax_ent [.ref 425, .int (jI m), .int (jI i), .int (jI j)] 8) [] w (Ret fun u w' => RO w 1 0 (absR s) u w') := by
  refine fi_mono (c_inverse (by omega) (by omega) hw hM hB m0 m1 i0 i1 j0 j1) (fun o w' ⟨u, e, hh⟩ => ⟨u, e, ?_⟩)
  rcases hh with ⟨_, h1, h2⟩ | hh | hh | hh
  · exact ⟨RX_pub h1 h5, h2⟩
  · exact absurd hh.1 h
  · exact absurd hh.1 h
  · exact absurd hh.1 h
theorem sR_characteristic {m k : Int} (hw : RW w w s) (hM : MI s) (hB : Bg s r) (h5 : 0 ≤ s 0 5) (h : (0 ≤ m ∧ m < 6)) (m0 : -2147483648 ≤ m) (m1 : m < 2147483648) (k0 : -2147483648 ≤ k) (k1 : k < 2147483648) (hfr : 10 ≤ fr) (hlo : 320 ≤ lo) :
    fin xs fr lo 181 0 (ax_ent [.ref 425, .int (jI m), .int (jI k)] 6) [] w (Ret fun u w' => ∃ c α', m_characteristic (absR s) m k c α' ∧ RO w 0 c α' u w') := by
  refine fi_mono (c_characteristic (by omega) (by omega) hw hM hB m0 m1 k0 k1) (fun o w' ⟨u, e, hh⟩ => ⟨u, e, ?_⟩)
  rcases hh with ⟨h1, h2⟩ | ⟨_, h1, h2, h3⟩ | ⟨_, h1, h2, h3, h4⟩ | ⟨_, h1, h2, d, hd, h3, h4⟩
  · exact absurd h h1
  · exact ⟨-2, _, Or.inl ⟨h1, rfl, rfl⟩, RX_pub h2 h5, h3⟩
  · exact ⟨-1, _, Or.inr (Or.inl ⟨h1, h2, rfl, rfl⟩), RX_pub h3 h5, h4⟩
  · subst hd
    exact ⟨_, _, Or.inr (Or.inr ⟨h1, h2, rfl, rfl⟩), RX_pubS h3, h4⟩
theorem sR_characteristicT {m k : Int} (hw : RW w w s) (hM : MI s) (hB : Bg s r) (h5 : 0 ≤ s 0 5) (h : ¬ ((0 ≤ m ∧ m < 6))) (m0 : -2147483648 ≤ m) (m1 : m < 2147483648) (k0 : -2147483648 ≤ k) (k1 : k < 2147483648) (hfr : 10 ≤ fr) (hlo : 320 ≤ lo) :
    fin xs fr lo 181 0 (ax_ent [.ref 425, .int (jI m), .int (jI k)] 6) [] w (Ret fun u w' => RO w 1 0 (absR s) u w') := by
  refine fi_mono (c_characteristic (by omega) (by omega) hw hM hB m0 m1 k0 k1) (fun o w' ⟨u, e, hh⟩ => ⟨u, e, ?_⟩)
  rcases hh with ⟨_, h1, h2⟩ | hh | hh | hh
  · exact ⟨RX_pub h1 h5, h2⟩
  · exact absurd hh.1 h
  · exact absurd hh.1 h
  · exact absurd hh.1 h
theorem sR_check {m : Int} (hw : RW w w s) (hM : MI s) (hB : Bg s r) (h5 : 0 ≤ s 0 5) (h : (0 ≤ m ∧ m < 6)) (m0 : -2147483648 ≤ m) (m1 : m < 2147483648) (hfr : 10 ≤ fr) (hlo : 320 ≤ lo) :
    fin xs fr lo 184 0 (ax_ent [.ref 425, .int (jI m)] 2) [] w (Ret fun u w' => ∃ c α', m_check (absR s) m c α' ∧ RO w 0 c α' u w') := by
  refine fi_mono (c_check (by omega) (by omega) hw m0 m1) (fun o w' ⟨u, e, h1, h2⟩ => ⟨u, e, ?_⟩)
  rw [if_pos h] at h1 h2
  exact ⟨1, _, ⟨rfl, rfl⟩, RX_up 0 h1 hB h5, h2⟩
theorem sR_checkT {m : Int} (hw : RW w w s) (hM : MI s) (hB : Bg s r) (h5 : 0 ≤ s 0 5) (h : ¬ ((0 ≤ m ∧ m < 6))) (m0 : -2147483648 ≤ m) (m1 : m < 2147483648) (hfr : 10 ≤ fr) (hlo : 320 ≤ lo) :
    fin xs fr lo 184 0 (ax_ent [.ref 425, .int (jI m)] 2) [] w (Ret fun u w' => RO w 1 0 (absR s) u w') := by
  refine fi_mono (c_check (by omega) (by omega) hw m0 m1) (fun o w' ⟨u, e, h1, h2⟩ => ⟨u, e, ?_⟩)
  rw [if_neg h] at h1 h2
  exact ⟨RX_up 1 h1 hB h5, h2⟩
end SR
