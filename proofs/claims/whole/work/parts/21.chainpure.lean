/-! the chains against the tables: what a walk over a chain finds is what the look through all rows finds -/
theorem c_first_best {σ : St} (q t k : Nat) : ∀ n : Nat, c_first σ t k (chn σ q n) = q_best σ q t k n := sorry
theorem c_sum_sum {σ : St} (q x y : Nat) : ∀ n : Nat, c_sum σ x y (chn σ q n) = q_sum σ q x y n := sorry
theorem c_gt_gt {σ : St} (q len : Nat) (hl : 1 ≤ len) : c_gt σ len (chn σ q (s_n σ)) 0 0 0 = q_gt σ q len (s_n σ) := sorry
theorem c_tl_tl {σ : St} (q len : Nat) (hl : 1 ≤ len) : c_tl σ len (chn σ q (s_n σ)) 0 = q_tl σ q len (s_n σ) := sorry
theorem c_rev_rev {σ : St} (hI : sI σ) (q T : Nat) (hT : 1 ≤ T) : c_rev σ (q / 10) T (chn σ q (s_n σ)) (s_now σ + 1) = q_rev σ q T (s_now σ / T + 1) := sorry
