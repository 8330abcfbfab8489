-- the pool holds
set_option maxRecDepth 100000 in
theorem ax_pool1 : (ax_pool.take 120).all ax_pchk = true := by decide +kernel
set_option maxRecDepth 100000 in
theorem ax_pool2 : ((ax_pool.drop 120).take 120).all ax_pchk = true := by decide +kernel
set_option maxRecDepth 100000 in
theorem ax_pool3 : (ax_pool.drop 240).all ax_pchk = true := by decide +kernel
theorem ax_poolOk : ∀ q ∈ ax_pool, ax_pchk q = true := by
  intro q hq
  have e : ax_pool = ax_pool.take 120 ++ ((ax_pool.drop 120).take 120 ++ ax_pool.drop 240) := by
    rw [show ax_pool.drop 240 = (ax_pool.drop 120).drop 120 from by rw [List.drop_drop], List.take_append_drop, List.take_append_drop]
  rw [e] at hq
  rcases List.mem_append.mp hq with h | h
  · exact List.all_eq_true.mp ax_pool1 q h
  · rcases List.mem_append.mp h with h | h
    · exact List.all_eq_true.mp ax_pool2 q h
    · exact List.all_eq_true.mp ax_pool3 q h
