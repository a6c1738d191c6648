theorem dfd_rng {n : Int} {q : Int → Int} {p d : Int} (h : 0 ≤ n) : -1 ≤ dfd n q p d ∧ dfd n q p d ≤ n := by
  have hr := fst_rng (fun k => q (off n p (1 - d) k) = 0) (n := n) h
  unfold dfd; split <;> omega
