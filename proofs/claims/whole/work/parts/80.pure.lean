/-- the pure fact: the law answers 1 -/
theorem law_one (cx : rd_Cx) (hL : xL cx ≤ 1536) : F_L_law cx rd_w0 rd_s0 = some 1 := by
  sorry
