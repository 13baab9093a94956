theorem pq_nb0 {r : Int32} (h : r = 0) : narrow .boolean (.int r) = .int r := by subst h; rfl
theorem pq_nb1 {r : Int32} (h : r = 1) : narrow .boolean (.int r) = .int r := by subst h; rfl
