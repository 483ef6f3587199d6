/-! facts of the state that the class's methods rest on -/
theorem q_best_le (σ : St) (q t k : Nat) : ∀ r : Nat, q_best σ q t k r ≤ r
  | 0 => Nat.le_refl _
  | r + 1 => by
    have h := q_best_le σ q t k r
    simp only [q_best]
    split <;> omega
theorem q_fst_01 (σ : St) (len row : Nat) : ∀ r : Nat, q_fst σ len row r = 0 ∨ q_fst σ len row r = 1
  | 0 => Or.inr rfl
  | r + 1 => by
    simp only [q_fst]
    split
    · exact Or.inr rfl
    · exact Or.inl rfl
theorem nz_01 {v : Nat} (h : v = 0 ∨ v = 1) : narrow .boolean (.int (nI v)) = .int (nI v) := by
  rcases h with rfl | rfl <;> decide +kernel
theorem q_join_le (σ : St) (q t k : Nat) : q_join σ q t k ≤ s_n σ := by
  have h := q_best_le σ q t k (s_n σ)
  simp only [q_join, q_fr]
  split
  · omega
  · split <;> omega
def q_snd (σ : St) (i : Nat) : Nat := if s_sv σ i = q_join σ (s_sp σ i) (s_sa σ i) (s_sa σ i) then 1 else 0
theorem q_fr_le {σ : St} {o t n : Nat} (h : o ≤ n) : q_fr σ o t ≤ n := by
  simp only [q_fr]
  split
  · omega
  · split <;> omega
theorem tk1_k (σ : St) (k : Nat) (h9 : ¬ k = 9) (h2 : ¬ k = 2) : q_take1 σ k = σ k := by
  unfold q_take1
  show (if k = 2 then _ else _) = _
  rw [if_neg h2]
  split
  · show (if k = 9 then _ else _) = _
    rw [if_neg h9]
  · rfl
theorem tk1_0 (σ : St) : s_now (q_take1 σ) = s_now σ := congrFun (tk1_k σ 0 (by decide) (by decide)) 0
theorem tk1_1 (σ : St) : s_n (q_take1 σ) = s_n σ := congrFun (tk1_k σ 1 (by decide) (by decide)) 0
theorem tk1_2 (σ : St) : s_tk (q_take1 σ) = s_tk σ + 1 := rfl
theorem tk1_3 (σ : St) : s_k (q_take1 σ) = s_k σ := congrFun (tk1_k σ 3 (by decide) (by decide)) 0
theorem tk1_4 (σ : St) : s_lt (q_take1 σ) = s_lt σ := tk1_k σ 4 (by decide) (by decide)
theorem tk1_5 (σ : St) : s_pr (q_take1 σ) = s_pr σ := tk1_k σ 5 (by decide) (by decide)
theorem tk1_6 (σ : St) : s_ev (q_take1 σ) = s_ev σ := tk1_k σ 6 (by decide) (by decide)
theorem tk1_7 (σ : St) : s_ar (q_take1 σ) = s_ar σ := tk1_k σ 7 (by decide) (by decide)
theorem tk1_8 (σ : St) : s_vl (q_take1 σ) = s_vl σ := tk1_k σ 8 (by decide) (by decide)
theorem tk1_10 (σ : St) : s_sp (q_take1 σ) = s_sp σ := tk1_k σ 10 (by decide) (by decide)
theorem tk1_11 (σ : St) : s_sa (q_take1 σ) = s_sa σ := tk1_k σ 11 (by decide) (by decide)
theorem tk1_12 (σ : St) : s_sv (q_take1 σ) = s_sv σ := tk1_k σ 12 (by decide) (by decide)
theorem tk1_9 (σ : St) : s_cp (q_take1 σ) = if s_cp σ (s_pr σ (s_tk σ)) = 0 ∨ s_ev σ (s_cp σ (s_pr σ (s_tk σ)) - 1) ≤ s_ev σ (s_tk σ) then uN (s_cp σ) (s_pr σ (s_tk σ)) (s_tk σ + 1) else s_cp σ := by
  by_cases h : s_cp σ (s_pr σ (s_tk σ)) = 0 ∨ s_ev σ (s_cp σ (s_pr σ (s_tk σ)) - 1) ≤ s_ev σ (s_tk σ)
  · rw [if_pos h]; unfold q_take1; rw [if_pos h]; rfl
  · rw [if_neg h]; unfold q_take1; rw [if_neg h]; rfl
theorem sI_take1 {σ : St} (hI : sI σ) (h : s_tk σ < s_n σ) : sI (q_take1 σ) := by
  obtain ⟨i_now, i_n, i_tk, i_k, i_lt, i_row, i_cp, i_srv⟩ := hI
  unfold sI
  rw [tk1_0, tk1_1, tk1_2, tk1_3, tk1_4, tk1_5, tk1_6, tk1_7, tk1_8, tk1_9, tk1_10, tk1_11, tk1_12]
  refine ⟨i_now, i_n, h, i_k, i_lt, i_row, ?_, i_srv⟩
  intro q hq
  obtain ⟨h1, h2⟩ := i_cp q hq
  split
  · by_cases e : q = s_pr σ (s_tk σ)
    · subst e
      rw [uN_s]
      exact ⟨Nat.le_refl _, fun r hr => by
        have : r = s_tk σ := by omega
        rw [this]⟩
    · rw [uN_n e]
      exact ⟨by omega, h2⟩
  · exact ⟨by omega, h2⟩
theorem sI_half {σ : St} {q n x : Nat} (h : ∀ i, i < s_k σ → s_sp σ i < 60 ∧ s_sa σ i ≤ n ∧ s_sv σ i ≤ s_n σ) : ∀ i, i < s_k σ → uN (s_sp σ) (s_k σ) q i < 60 ∧ uN (s_sa σ) (s_k σ) x i ≤ n ∧ s_sv σ i ≤ s_n σ := by
  intro i hi
  rw [uN_n (by omega), uN_n (by omega)]
  exact h i hi
theorem q_snd_01 (σ : St) (i : Nat) : q_snd σ i = 0 ∨ q_snd σ i = 1 := by
  unfold q_snd
  split
  · exact Or.inr rfl
  · exact Or.inl rfl
