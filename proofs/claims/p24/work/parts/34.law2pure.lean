/-! what the law's own walks come to -/
/-- a sum over rows -/
def cn (f : Nat → Nat) : Nat → Nat
  | 0 => 0
  | m + 1 => cn f m + f m
theorem cn_congr {f g : Nat → Nat} : ∀ {m : Nat}, (∀ k, k < m → f k = g k) → cn f m = cn g m := by
  intro m
  induction m with
  | zero => intro _; rfl
  | succ m ih =>
    intro h
    simp only [cn]
    rw [ih (fun k hk => h k (by omega)), h m (by omega)]
theorem cn_add {f g : Nat → Nat} : ∀ m : Nat, cn (fun k => f k + g k) m = cn f m + cn g m := by
  intro m
  induction m with
  | zero => rfl
  | succ m ih => simp only [cn]; omega
theorem cn_zero {f : Nat → Nat} {m : Nat} (h : ∀ k, k < m → f k = 0) : cn f m = 0 := by
  induction m with
  | zero => rfl
  | succ m ih =>
    simp only [cn]
    rw [ih (fun k hk => h k (by omega)), h m (by omega)]
-- find
def q_key (σ : St) (o : Nat) : Nat := if o = 0 then 0 else 64 * s_ev σ (o - 1) + (o - 1) + 1
theorem q_key_s (σ : St) (r : Nat) : q_key σ (r + 1) = 64 * s_ev σ r + r + 1 := by simp [q_key]
theorem q_best_spec {σ : St} {q t k : Nat} : ∀ n : Nat, q_best σ q t k n ≤ n ∧ ∀ x, q_best σ q t k n = x + 1 → s_pr σ x = q ∧ s_ev σ x ≤ t ∧ s_ar σ x ≤ k := by
  intro n
  induction n with
  | zero => exact ⟨Nat.le_refl _, fun x h => by simp [q_best] at h⟩
  | succ n ih =>
    obtain ⟨h1, h2⟩ := ih
    simp only [q_best]
    split
    · rename_i h
      refine ⟨Nat.le_refl _, fun x hx => ?_⟩
      obtain rfl : x = n := by omega
      exact ⟨h.1, h.2.1, h.2.2.1⟩
    · exact ⟨by omega, h2⟩
theorem q_key_le {σ : St} (hI : sI σ) (hn : s_n σ ≤ 60) {o : Nat} (ho : o ≤ s_n σ) : q_key σ o ≤ 640100 := by
  unfold q_key
  split
  · omega
  · have h1 := hI.2.2.2.2.2.1 (o - 1) (by omega)
    have h2 := hI.1
    omega
theorem q_best_skip {σ : St} {q t k r : Nat} (hr : r < 60) (h : ¬ s_pr σ r = q ∨ ¬ s_ev σ r ≤ t ∨ ¬ s_ar σ r ≤ k ∨ ¬ q_key σ (q_best σ q t k r) ≤ 64 * s_ev σ r + r + 1) : q_best σ q t k (r + 1) = q_best σ q t k r := by
  have hb := (q_best_spec (σ := σ) (q := q) (t := t) (k := k) r).1
  simp only [q_best]
  refine if_neg ?_
  rintro ⟨h1, h2, h3, h4⟩
  rcases h with h | h | h | h
  · exact h h1
  · exact h h2
  · exact h h3
  · unfold q_key at h
    rcases h4 with h4 | h4
    · rw [if_pos h4] at h; omega
    · by_cases h0 : q_best σ q t k r = 0
      · rw [if_pos h0] at h; omega
      · rw [if_neg h0] at h; omega
theorem q_best_got {σ : St} {q t k r : Nat} (hr : r < 60) (h1 : s_pr σ r = q) (h2 : s_ev σ r ≤ t) (h3 : s_ar σ r ≤ k) (h4 : q_key σ (q_best σ q t k r) ≤ 64 * s_ev σ r + r + 1) : q_best σ q t k (r + 1) = r + 1 := by
  simp only [q_best]
  refine if_pos ⟨h1, h2, h3, ?_⟩
  by_cases h0 : q_best σ q t k r = 0
  · exact Or.inl h0
  · refine Or.inr ?_
    unfold q_key at h4
    rw [if_neg h0] at h4
    omega
theorem q_fr_self (σ : St) (o t : Nat) : q_fr σ o t ≤ o := by
  unfold q_fr
  split
  · omega
  · split <;> omega
theorem q_fr_0 (σ : St) (t : Nat) : q_fr σ 0 t = 0 := by simp [q_fr]
theorem q_fr_s {σ : St} {o t : Nat} (h : ¬ o = 0) (h2 : t ≤ s_ev σ (o - 1) + s_lt σ (s_pr σ (o - 1) / 10)) : q_fr σ o t = o := by
  unfold q_fr
  rw [if_neg h, if_pos h2]
theorem q_fr_n {σ : St} {o t : Nat} (h : ¬ o = 0) (h2 : ¬ t ≤ s_ev σ (o - 1) + s_lt σ (s_pr σ (o - 1) / 10)) : q_fr σ o t = 0 := by
  unfold q_fr
  rw [if_neg h, if_neg h2]
theorem q_best_congr {σ σ' : St} {q t k t' k' : Nat} : ∀ {n : Nat}, (∀ r, r < n → s_pr σ' r = s_pr σ r ∧ s_ev σ' r = s_ev σ r ∧ ((s_ev σ r ≤ t' ∧ s_ar σ' r ≤ k') ↔ (s_ev σ r ≤ t ∧ s_ar σ r ≤ k))) → q_best σ' q t' k' n = q_best σ q t k n := by
  intro n
  induction n with
  | zero => intro _; rfl
  | succ n ih =>
    intro h
    have e := ih (fun r hr => h r (by omega))
    obtain ⟨h1, h2, h3⟩ := h n (by omega)
    have hb := (q_best_spec (σ := σ) (q := q) (t := t) (k := k) n).1
    have h4 : (q_best σ q t k n = 0 ∨ s_ev σ' (q_best σ q t k n - 1) ≤ s_ev σ n) ↔ (q_best σ q t k n = 0 ∨ s_ev σ (q_best σ q t k n - 1) ≤ s_ev σ n) := by
      by_cases h0 : q_best σ q t k n = 0
      · simp [h0]
      · rw [(h (q_best σ q t k n - 1) (by omega)).2.1]
    simp only [q_best]
    rw [e, h1, h2]
    have h5 : (s_pr σ n = q ∧ s_ev σ n ≤ t' ∧ s_ar σ' n ≤ k' ∧ (q_best σ q t k n = 0 ∨ s_ev σ' (q_best σ q t k n - 1) ≤ s_ev σ n)) ↔ (s_pr σ n = q ∧ s_ev σ n ≤ t ∧ s_ar σ n ≤ k ∧ (q_best σ q t k n = 0 ∨ s_ev σ (q_best σ q t k n - 1) ≤ s_ev σ n)) := by
      rw [h4]
      constructor
      · rintro ⟨a, b, c, d⟩
        exact ⟨a, (h3.mp ⟨b, c⟩).1, (h3.mp ⟨b, c⟩).2, d⟩
      · rintro ⟨a, b, c, d⟩
        exact ⟨a, (h3.mpr ⟨b, c⟩).1, (h3.mpr ⟨b, c⟩).2, d⟩
    by_cases h6 : (s_pr σ n = q ∧ s_ev σ n ≤ t ∧ s_ar σ n ≤ k ∧ (q_best σ q t k n = 0 ∨ s_ev σ (q_best σ q t k n - 1) ≤ s_ev σ n))
    · rw [if_pos h6, if_pos (h5.mpr h6)]
    · rw [if_neg h6, if_neg (fun z => h6 (h5.mp z))]
-- tiles
def t_sum (σ : St) (len k : Nat) : Nat → Nat
  | 0 => 0
  | x + 1 => t_sum σ len k x + (if s_pr σ x = s_pr σ k ∧ s_ev σ x / len = s_ev σ k / len then s_vl σ x else 0)
def t_lst (σ : St) (len k : Nat) : Nat → Nat
  | 0 => 1
  | x + 1 => if (s_pr σ x = s_pr σ k ∧ s_ev σ x / len = s_ev σ k / len) ∧ k < x then 0 else t_lst σ len k x
def t_mx (σ : St) (q len N : Nat) : Nat → Nat
  | 0 => 0
  | k + 1 => if s_pr σ k = q ∧ t_mx σ q len N k < t_sum σ len k N then t_sum σ len k N else t_mx σ q len N k
def t_ct (σ : St) (q len N : Nat) : Nat → Nat := cn (fun k => if s_pr σ k = q ∧ t_lst σ len k N = 1 then 1 else 0)
theorem t_lst_01 (σ : St) (len k : Nat) : ∀ x : Nat, t_lst σ len k x = 0 ∨ t_lst σ len k x = 1 := by
  intro x
  induction x with
  | zero => exact Or.inr rfl
  | succ x ih =>
    simp only [t_lst]
    split
    · exact Or.inl rfl
    · exact ih
theorem t_lst_y {σ : St} {len k x : Nat} (h : s_pr σ x = s_pr σ k ∧ s_ev σ x / len = s_ev σ k / len) (hk : k < x) : t_lst σ len k (x + 1) = 0 := by
  simp only [t_lst]
  exact if_pos ⟨h, hk⟩
theorem t_lst_n {σ : St} {len k x : Nat} (h : ¬ ((s_pr σ x = s_pr σ k ∧ s_ev σ x / len = s_ev σ k / len) ∧ k < x)) : t_lst σ len k (x + 1) = t_lst σ len k x := by
  simp only [t_lst]
  exact if_neg h
theorem t_sum_y {σ : St} {len k x : Nat} (h : s_pr σ x = s_pr σ k ∧ s_ev σ x / len = s_ev σ k / len) : t_sum σ len k (x + 1) = t_sum σ len k x + s_vl σ x := by
  simp only [t_sum]
  rw [if_pos h]
theorem t_sum_n {σ : St} {len k x : Nat} (h : ¬ (s_pr σ x = s_pr σ k ∧ s_ev σ x / len = s_ev σ k / len)) : t_sum σ len k (x + 1) = t_sum σ len k x := by
  simp only [t_sum]
  rw [if_neg h]
  rfl
theorem t_mx_y {σ : St} {q len N k : Nat} (h1 : s_pr σ k = q) (h : ¬ t_sum σ len k N ≤ t_mx σ q len N k) : t_mx σ q len N (k + 1) = t_sum σ len k N := by
  simp only [t_mx]
  exact if_pos ⟨h1, by omega⟩
theorem t_mx_n {σ : St} {q len N k : Nat} (h : ¬ s_pr σ k = q ∨ t_sum σ len k N ≤ t_mx σ q len N k) : t_mx σ q len N (k + 1) = t_mx σ q len N k := by
  simp only [t_mx]
  exact if_neg (fun z => h.elim (fun g => g z.1) (fun g => by have := z.2; omega))
theorem t_ct_y {σ : St} {q len N k : Nat} (h : s_pr σ k = q ∧ t_lst σ len k N = 1) : t_ct σ q len N (k + 1) = t_ct σ q len N k + 1 := by
  show cn _ k + (if s_pr σ k = q ∧ t_lst σ len k N = 1 then 1 else 0) = _
  rw [if_pos h]
  rfl
theorem t_ct_n {σ : St} {q len N k : Nat} (h : ¬ (s_pr σ k = q ∧ t_lst σ len k N = 1)) : t_ct σ q len N (k + 1) = t_ct σ q len N k := by
  show cn _ k + (if s_pr σ k = q ∧ t_lst σ len k N = 1 then 1 else 0) = _
  rw [if_neg h]
  rfl
theorem q_sum_y {σ : St} {q x y k : Nat} (h : s_pr σ k = q ∧ x ≤ s_ev σ k ∧ s_ev σ k ≤ y) : q_sum σ q x y (k + 1) = q_sum σ q x y k + s_vl σ k := by
  simp only [q_sum]
  rw [if_pos h]
theorem q_sum_n {σ : St} {q x y k : Nat} (h : ¬ (s_pr σ k = q ∧ x ≤ s_ev σ k ∧ s_ev σ k ≤ y)) : q_sum σ q x y (k + 1) = q_sum σ q x y k := by
  simp only [q_sum]
  rw [if_neg h]
  rfl
theorem t_sum_le {σ : St} (hI : sI σ) (len k : Nat) : ∀ r : Nat, r ≤ s_n σ → t_sum σ len k r ≤ 100000 * r := by
  intro r
  induction r with
  | zero => intro _; exact Nat.zero_le _
  | succ r ih =>
    intro h
    have h1 := ih (by omega)
    have h2 := (hI.2.2.2.2.2.1 r (by omega)).2.2.2
    simp only [t_sum]
    split <;> omega
theorem t_mx_le {σ : St} (hI : sI σ) (hn : s_n σ ≤ 60) (q len : Nat) : ∀ r : Nat, t_mx σ q len (s_n σ) r ≤ 6000000 := by
  intro r
  induction r with
  | zero => exact Nat.zero_le _
  | succ r ih =>
    have h1 := t_sum_le hI len r (s_n σ) (Nat.le_refl _)
    simp only [t_mx]
    split <;> omega
theorem cn_le {f : Nat → Nat} (h : ∀ k, f k ≤ 1) : ∀ m : Nat, cn f m ≤ m := by
  intro m
  induction m with
  | zero => exact Nat.zero_le _
  | succ m ih =>
    have := h m
    simp only [cn]
    omega
theorem t_ct_le (σ : St) (q len N m : Nat) : t_ct σ q len N m ≤ m := cn_le (fun k => by split <;> omega) m
theorem t_sum_same {σ : St} {len a b : Nat} (h1 : s_pr σ a = s_pr σ b) (h2 : s_ev σ a / len = s_ev σ b / len) : ∀ n : Nat, t_sum σ len a n = t_sum σ len b n := by
  intro n
  induction n with
  | zero => rfl
  | succ n ih => simp only [t_sum, ih, h1, h2]
theorem t_sum_q {σ : St} {len k : Nat} (hl : 1 ≤ len) : ∀ n : Nat, t_sum σ len k n = q_sum σ (s_pr σ k) (s_ev σ k / len * len) (s_ev σ k / len * len + len - 1) n := by
  intro n
  induction n with
  | zero => rfl
  | succ n ih =>
    simp only [t_sum, q_sum, ih]
    congr 1
    by_cases h1 : s_pr σ n = s_pr σ k
    · by_cases h2 : s_ev σ n / len = s_ev σ k / len
      · rw [if_pos ⟨h1, h2⟩, if_pos ⟨h1, (in_tile hl).mpr h2⟩]
      · rw [if_neg (fun z => h2 z.2), if_neg (fun z => h2 ((in_tile hl).mp z.2))]
    · rw [if_neg (fun z => h1 z.1), if_neg (fun z => h1 z.1)]
theorem t_mx_gt {σ : St} {q len : Nat} (hl : 1 ≤ len) : ∀ m : Nat, t_mx σ q len (s_n σ) m = q_gt σ q len m ∧ ∀ y, y < m → s_pr σ y = q → t_sum σ len y (s_n σ) ≤ t_mx σ q len (s_n σ) m := by
  intro m
  induction m with
  | zero => exact ⟨rfl, fun y hy => absurd hy (Nat.not_lt_zero y)⟩
  | succ m ih =>
    obtain ⟨h1, h2⟩ := ih
    have h3 : ∀ y, y < m + 1 → s_pr σ y = q → t_sum σ len y (s_n σ) ≤ t_mx σ q len (s_n σ) (m + 1) := by
      intro y hy hp
      simp only [t_mx]
      by_cases e : y = m
      · subst e
        split
        · exact Nat.le_refl _
        · rename_i h; exact Nat.not_lt.mp (fun z => h ⟨hp, z⟩)
      · have h4 := h2 y (by omega) hp
        split
        · rename_i h; omega
        · exact h4
    refine ⟨?_, h3⟩
    simp only [t_mx, q_gt]
    by_cases hp : s_pr σ m = q
    · by_cases hf : q_fst σ len m m = 1
      · have e : q_its σ q len m = t_sum σ len m (s_n σ) := by
          unfold q_its
          rw [if_pos ⟨hp, hf⟩, t_sum_q hl, hp]
        rw [e, h1]
        by_cases h5 : q_gt σ q len m < t_sum σ len m (s_n σ)
        · rw [if_pos ⟨hp, h5⟩, if_pos h5]
        · rw [if_neg (fun z => h5 z.2), if_neg h5]
      · have e : q_its σ q len m = 0 := by
          unfold q_its
          rw [if_neg (fun z => hf z.2)]
        have h6 : ∃ j, j < m ∧ s_pr σ j = s_pr σ m ∧ s_ev σ j / len = s_ev σ m / len := by
          refine Classical.byContradiction (fun z => hf (q_fst_iff.mpr (fun j hj h => z ⟨j, hj, h.1, h.2⟩)))
        obtain ⟨j, hj, g1, g2⟩ := h6
        have h7 := h2 j hj (g1.trans hp)
        rw [t_sum_same g1 g2] at h7
        rw [e, if_neg (fun z => by have := z.2; omega), if_neg (Nat.not_lt_zero _), h1]
    · have e : q_its σ q len m = 0 := by
        unfold q_its
        rw [if_neg (fun z => hp z.1)]
      rw [e, if_neg (fun z => hp z.1), if_neg (Nat.not_lt_zero _), h1]
/-- one in a tile is its last -/
theorem t_one {σ : St} {len N : Nat} : ∀ M : Nat, cn (fun k => if t_lst σ len k M = 1 ∧ s_pr σ N = s_pr σ k ∧ s_ev σ N / len = s_ev σ k / len then 1 else 0) M = if q_fst σ len N M = 1 then 0 else 1 := by
  intro M
  induction M with
  | zero => rfl
  | succ M ih =>
    have hself : t_lst σ len M (M + 1) = 1 := by
      have h : ∀ x, x ≤ M → t_lst σ len M x = 1 := by
        intro x
        induction x with
        | zero => intro _; rfl
        | succ x ih2 =>
          intro hx
          simp only [t_lst]
          rw [if_neg (fun z => by have := z.2; omega)]
          exact ih2 (by omega)
      simp only [t_lst]
      rw [if_neg (fun z => absurd z.2 (Nat.lt_irrefl M))]
      exact h M (Nat.le_refl _)
    show cn _ M + (if t_lst σ len M (M + 1) = 1 ∧ s_pr σ N = s_pr σ M ∧ s_ev σ N / len = s_ev σ M / len then 1 else 0) = _
    by_cases hs : s_pr σ N = s_pr σ M ∧ s_ev σ N / len = s_ev σ M / len
    · rw [if_pos ⟨hself, hs⟩, cn_zero (fun k hk => if_neg (fun z => ?_)), if_neg (fun z => ?_)]
      · exact q_fst_iff.mp z M (by omega) ⟨hs.1.symm, hs.2.symm⟩
      · have h1 := z.1
        simp only [t_lst] at h1
        rw [if_pos ⟨⟨hs.1.symm.trans z.2.1, hs.2.symm.trans z.2.2⟩, hk⟩] at h1
        cases h1
    · rw [if_neg (fun z => hs z.2)]
      rw [cn_congr (g := fun k => if t_lst σ len k M = 1 ∧ s_pr σ N = s_pr σ k ∧ s_ev σ N / len = s_ev σ k / len then 1 else 0) (fun k hk => ?_), ih]
      · by_cases hf : q_fst σ len N M = 1
        · rw [if_pos hf, if_pos (q_fst_iff.mpr (fun j hj h => ?_))]
          by_cases e : j = M
          · subst e; exact hs ⟨h.1.symm, h.2.symm⟩
          · exact q_fst_iff.mp hf j (by omega) h
        · rw [if_neg hf, if_neg (fun z => hf (q_fst_iff.mpr (fun j hj => q_fst_iff.mp z j (by omega))))]
      · by_cases h2 : s_pr σ N = s_pr σ k ∧ s_ev σ N / len = s_ev σ k / len
        · have e : t_lst σ len k (M + 1) = t_lst σ len k M := by
            simp only [t_lst]
            exact if_neg (fun z => hs ⟨h2.1.trans z.1.1.symm, h2.2.trans z.1.2.symm⟩)
          rw [e]
        · rw [if_neg (fun z => h2 z.2), if_neg (fun z => h2 z.2)]
theorem t_ct_tl {σ : St} {q len : Nat} : ∀ N : Nat, t_ct σ q len N N = q_tl σ q len N := by
  intro N
  induction N with
  | zero => rfl
  | succ N ih =>
    have hself : t_lst σ len N (N + 1) = 1 := by
      have h : ∀ x, x ≤ N → t_lst σ len N x = 1 := by
        intro x
        induction x with
        | zero => intro _; rfl
        | succ x ih2 =>
          intro hx
          simp only [t_lst]
          rw [if_neg (fun z => by have := z.2; omega)]
          exact ih2 (by omega)
      simp only [t_lst]
      rw [if_neg (fun z => absurd z.2 (Nat.lt_irrefl N))]
      exact h N (Nat.le_refl _)
    have e1 : t_ct σ q len N N = t_ct σ q len (N + 1) N + cn (fun k => if s_pr σ N = q then (if t_lst σ len k N = 1 ∧ s_pr σ N = s_pr σ k ∧ s_ev σ N / len = s_ev σ k / len then 1 else 0) else 0) N := by
      unfold t_ct
      rw [← cn_add]
      refine cn_congr (fun k hk => ?_)
      show (if s_pr σ k = q ∧ t_lst σ len k N = 1 then 1 else 0) = (if s_pr σ k = q ∧ t_lst σ len k (N + 1) = 1 then 1 else 0) + (if s_pr σ N = q then (if t_lst σ len k N = 1 ∧ s_pr σ N = s_pr σ k ∧ s_ev σ N / len = s_ev σ k / len then 1 else 0) else 0)
      by_cases hs : s_pr σ N = s_pr σ k ∧ s_ev σ N / len = s_ev σ k / len
      · have e := t_lst_y hs hk
        rw [if_neg (c := s_pr σ k = q ∧ t_lst σ len k (N + 1) = 1) (fun z => by have := z.2; omega)]
        by_cases hp : s_pr σ N = q
        · by_cases h3 : t_lst σ len k N = 1
          · rw [if_pos ⟨hs.1.symm.trans hp, h3⟩, if_pos hp, if_pos ⟨h3, hs⟩]
          · rw [if_neg (fun z => h3 z.2), if_pos hp, if_neg (fun z => h3 z.1)]
        · rw [if_neg (fun z => hp (hs.1.trans z.1)), if_neg hp]
      · have e := t_lst_n (len := len) (k := k) (x := N) (fun z => hs z.1)
        have h4 : (if s_pr σ N = q then (if t_lst σ len k N = 1 ∧ s_pr σ N = s_pr σ k ∧ s_ev σ N / len = s_ev σ k / len then 1 else 0) else 0) = 0 := by
          split
          · exact if_neg (fun z => hs z.2)
          · rfl
        rw [h4, e]
        rfl
    have e2 : t_ct σ q len (N + 1) (N + 1) = t_ct σ q len (N + 1) N + (if s_pr σ N = q ∧ t_lst σ len N (N + 1) = 1 then 1 else 0) := rfl
    simp only [q_tl]
    rw [e2, hself, ← ih, e1]
    by_cases hp : s_pr σ N = q
    · have e3 : cn (fun k => if s_pr σ N = q then (if t_lst σ len k N = 1 ∧ s_pr σ N = s_pr σ k ∧ s_ev σ N / len = s_ev σ k / len then 1 else 0) else 0) N = if q_fst σ len N N = 1 then 0 else 1 := by
        rw [← t_one]
        exact cn_congr (fun k _ => if_pos hp)
      rw [e3, if_pos ⟨hp, rfl⟩]
      by_cases hf : q_fst σ len N N = 1
      · rw [if_pos hf, if_pos ⟨hp, hf⟩]
      · rw [if_neg hf, if_neg (fun z => hf z.2)]
    · rw [cn_zero (fun k _ => if_neg hp), if_neg (fun z => hp z.1), if_neg (fun z => hp z.1)]
-- skew: the pairs in the law's order
theorem cn_perm (g : Nat → Nat) : cn (fun j => g (10 * (j % 6) + j / 6)) 60 = cn g 60 := by
  simp only [cn, Nat.reduceMod, Nat.reduceDiv, Nat.reduceMul, Nat.reduceAdd]
  omega
def t_sk (σ : St) : Nat → Nat := cn (fun j => if q_fr σ (s_cp σ (10 * (j % 6) + j / 6)) (s_now σ) = q_join σ (10 * (j % 6) + j / 6) (s_now σ) (s_now σ) then 0 else 1)
theorem q_skew_cn (σ : St) : ∀ n : Nat, q_skew σ n = cn (fun q => if q_fr σ (s_cp σ q) (s_now σ) = q_join σ q (s_now σ) (s_now σ) then 0 else 1) n := by
  intro n
  induction n with
  | zero => rfl
  | succ n ih => simp only [q_skew, cn, ih]
theorem t_sk_60 (σ : St) : t_sk σ 60 = q_skew σ 60 := by
  rw [q_skew_cn]
  exact cn_perm (fun q => if q_fr σ (s_cp σ q) (s_now σ) = q_join σ q (s_now σ) (s_now σ) then 0 else 1)
theorem t_sk_le (σ : St) (m : Nat) : t_sk σ m ≤ m := cn_le (fun k => by split <;> omega) m
theorem t_sk_y {σ : St} {j : Nat} (h : q_fr σ (s_cp σ (10 * (j % 6) + j / 6)) (s_now σ) = q_join σ (10 * (j % 6) + j / 6) (s_now σ) (s_now σ)) : t_sk σ (j + 1) = t_sk σ j := by
  show cn _ j + (if q_fr σ (s_cp σ (10 * (j % 6) + j / 6)) (s_now σ) = q_join σ (10 * (j % 6) + j / 6) (s_now σ) (s_now σ) then 0 else 1) = _
  rw [if_pos h]
  rfl
theorem t_sk_n {σ : St} {j : Nat} (h : ¬ q_fr σ (s_cp σ (10 * (j % 6) + j / 6)) (s_now σ) = q_join σ (10 * (j % 6) + j / 6) (s_now σ) (s_now σ)) : t_sk σ (j + 1) = t_sk σ j + 1 := by
  show cn _ j + (if q_fr σ (s_cp σ (10 * (j % 6) + j / 6)) (s_now σ) = q_join σ (10 * (j % 6) + j / 6) (s_now σ) (s_now σ) then 0 else 1) = _
  rw [if_neg h]
  rfl
theorem q_uns_le (σ : St) : ∀ m : Nat, q_uns σ m ≤ m := by
  intro m
  induction m with
  | zero => exact Nat.zero_le _
  | succ m ih =>
    simp only [q_uns]
    split <;> omega
theorem q_rev_le (σ : St) (q T : Nat) : ∀ m : Nat, q_rev σ q T m ≤ m := by
  intro m
  induction m with
  | zero => exact Nat.zero_le _
  | succ m ih =>
    simp only [q_rev]
    split <;> omega
-- what stays
theorem lI_0 : lI σ_0 := ⟨Nat.zero_le _, Nat.zero_le _, fun q _ => rfl⟩
theorem lI_arrive {σ : St} (hI : sI σ) (h : lI σ) {q v w : Nat} (hn : s_n σ < 60) : lI (g_arrive σ q v w) := by
  refine ⟨hn, h.2.1, fun p hp => ?_⟩
  refine (h.2.2 p hp).trans (q_best_congr (σ := σ) (σ' := g_arrive σ q v w) (n := s_tk σ) (fun r hr => ?_)).symm
  have h1 := hI.2.2.1
  rw [ga_pr, ga_ev, ga_ar, uN_n (by omega), uN_n (by omega), uN_n (by omega)]
  exact ⟨rfl, rfl, Iff.rfl⟩
theorem lI_pass {σ : St} (hI : sI σ) (h : lI σ) {t : Nat} : lI (g_pass σ t) := by
  refine ⟨h.1, h.2.1, fun p hp => ?_⟩
  refine (h.2.2 p hp).trans (q_best_congr (σ := σ) (σ' := g_pass σ t) (n := s_tk σ) (fun r hr => ⟨rfl, rfl, ?_⟩)).symm
  have h1 := hI.2.2.1
  have h2 := hI.2.2.2.2.2.1 r (by omega)
  have h3 : s_ar (g_pass σ t) r = s_ar σ r := rfl
  have h4 : s_now (g_pass σ t) = s_now σ + t := rfl
  rw [h3, h4]
  constructor
  · intro _; omega
  · intro _; omega
theorem lI_setL {σ : St} (h : lI σ) {f t : Nat} : lI (g_setL σ f t) := by
  refine ⟨h.1, h.2.1, fun p hp => ?_⟩
  exact (h.2.2 p hp).trans (q_best_congr (σ := σ) (σ' := g_setL σ f t) (n := s_tk σ) (fun r hr => ⟨rfl, rfl, Iff.rfl⟩)).symm
theorem lI_serve {σ : St} (h : lI σ) (hk : s_k σ < 60) {q : Nat} : lI (g_serve σ q) := by
  refine ⟨h.1, hk, fun p hp => ?_⟩
  exact (h.2.2 p hp).trans (q_best_congr (σ := σ) (σ' := g_serve σ q) (n := s_tk σ) (fun r hr => ⟨rfl, rfl, Iff.rfl⟩)).symm
theorem lI_take1 {σ : St} (hI : sI σ) (h : lI σ) (ht : s_tk σ < s_n σ) : lI (q_take1 σ) := by
  have e0 : s_now (q_take1 σ) = s_now σ := congrFun (tk1_k σ 0 (by decide) (by decide)) 0
  have e1 : s_n (q_take1 σ) = s_n σ := congrFun (tk1_k σ 1 (by decide) (by decide)) 0
  have e3 : s_k (q_take1 σ) = s_k σ := congrFun (tk1_k σ 3 (by decide) (by decide)) 0
  have e5 : s_pr (q_take1 σ) = s_pr σ := tk1_k σ 5 (by decide) (by decide)
  have e6 : s_ev (q_take1 σ) = s_ev σ := tk1_k σ 6 (by decide) (by decide)
  have e7 : s_ar (q_take1 σ) = s_ar σ := tk1_k σ 7 (by decide) (by decide)
  refine ⟨by rw [e1]; exact h.1, by rw [e3]; exact h.2.1, fun p hp => ?_⟩
  have h2 := hI.2.2.2.2.2.1 (s_tk σ) ht
  rw [e0, tk1_2, q_best_congr (σ := σ) (σ' := q_take1 σ) (t := s_now σ) (k := s_now σ) (n := s_tk σ + 1) (fun r hr => by rw [e5, e6, e7]; exact ⟨rfl, rfl, Iff.rfl⟩)]
  have hc := h.2.2 p hp
  simp only [q_best]
  rw [← hc, tk1_9]
  by_cases hq : s_pr σ (s_tk σ) = p
  · subst hq
    by_cases hd : s_cp σ (s_pr σ (s_tk σ)) = 0 ∨ s_ev σ (s_cp σ (s_pr σ (s_tk σ)) - 1) ≤ s_ev σ (s_tk σ)
    · rw [if_pos hd, if_pos ⟨rfl, by omega, by omega, hd⟩, uN_s]
    · rw [if_neg hd, if_neg (fun z => hd z.2.2.2)]
  · rw [if_neg (c := s_pr σ (s_tk σ) = p ∧ _) (fun z => hq z.1)]
    split
    · rw [uN_n (fun z => hq z.symm)]
    · rfl
theorem lI_take {σ : St} {hd ol : Nat → Nat} (hI : sI σ) (hJ : xJ σ hd ol) (h : lI σ) : ∀ m : Nat, m ≤ s_n σ - s_tk σ → lI (q_take σ m) := by
  intro m
  induction m with
  | zero => intro _; exact h
  | succ m ih =>
    intro hm
    exact lI_take1 (qt_all hI hJ m (by omega)).1 (ih (by omega)) (by rw [qt_tk, qt_n]; omega)
-- the law's arrays behind each write
theorem l_p_arrive (σ : St) (q v w : Nat) : l_p (g_arrive σ q v w) = uN (l_p σ) (s_n σ) (pN q) := by
  funext j
  show pN (uN (s_pr σ) (s_n σ) q j) = _
  by_cases h : j = s_n σ
  · subst h; rw [uN_s, uN_s]
  · rw [uN_n h, uN_n h]; rfl
theorem l_g_uN {σ σ' : St} {i v : Nat} (hi : i < 4) (h : ∀ j, j < 4 → l_g σ' j = if j = i then v else l_g σ j) : l_g σ' = uN (l_g σ) i v := by
  funext j
  unfold uN
  by_cases hj : j < 4
  · exact h j hj
  · rw [if_neg (by omega)]
    unfold l_g
    rw [if_neg (by omega), if_neg (by omega), if_neg (by omega), if_neg (by omega), if_neg (by omega), if_neg (by omega), if_neg (by omega), if_neg (by omega)]
theorem l_g_arrive (σ : St) (q v w : Nat) : l_g (g_arrive σ q v w) = uN (l_g σ) 1 (s_n σ + 1) := l_g_uN (by decide) (fun j hj => by
  rcases (show j = 0 ∨ j = 1 ∨ j = 2 ∨ j = 3 by omega) with rfl | rfl | rfl | rfl <;> rfl)
theorem l_g_pass (σ : St) (t : Nat) : l_g (g_pass σ t) = uN (l_g σ) 0 (s_now σ + t) := l_g_uN (by decide) (fun j hj => by
  rcases (show j = 0 ∨ j = 1 ∨ j = 2 ∨ j = 3 by omega) with rfl | rfl | rfl | rfl <;> rfl)
theorem l_g_serve (σ : St) (q : Nat) : l_g (g_serve σ q) = uN (l_g σ) 3 (s_k σ + 1) := l_g_uN (by decide) (fun j hj => by
  rcases (show j = 0 ∨ j = 1 ∨ j = 2 ∨ j = 3 by omega) with rfl | rfl | rfl | rfl <;> rfl)
theorem l_g_take (σ : St) (m : Nat) : l_g (q_take σ m) = uN (l_g σ) 2 (s_tk σ + m) := l_g_uN (by decide) (fun j hj => by
  rcases (show j = 0 ∨ j = 1 ∨ j = 2 ∨ j = 3 by omega) with rfl | rfl | rfl | rfl
  · exact congrFun (qt_k σ 0 (by decide) (by decide) m) 0
  · exact qt_n σ m
  · exact qt_tk σ m
  · exact qt_kk σ m)
theorem l_q_serve (σ : St) (q : Nat) : l_q (g_serve σ q) = uN (l_q σ) (s_k σ) (pN q + 128 * s_now σ) := by
  funext j
  show pN (uN (s_sp σ) (s_k σ) q j) + 128 * uN (s_sa σ) (s_k σ) (s_now σ) j = _
  by_cases h : j = s_k σ
  · subst h; rw [uN_s, uN_s, uN_s]
  · rw [uN_n h, uN_n h, uN_n h]; rfl
theorem l_p_take (σ : St) (m : Nat) : l_p (q_take σ m) = l_p σ := by
  unfold l_p
  rw [qt_pr]
theorem l_q_take (σ : St) (m : Nat) : l_q (q_take σ m) = l_q σ := by
  unfold l_q s_sp s_sa
  rw [qt_k σ 10 (by decide) (by decide) m, qt_k σ 11 (by decide) (by decide) m]
/-! 0 and 1 under a mask of one bit; answers of the class by numbers -/
theorem and_1 {x : Nat} (h : x = 0 ∨ x = 1) : nI x &&& nI 1 = nI x := by rcases h with rfl | rfl <;> decide
theorem and_0 {x : Nat} (h : x = 0 ∨ x = 1) : nI x &&& nI 0 = nI 0 := by rcases h with rfl | rfl <;> decide
theorem okP_n {f e : Nat} (hf : f < 6) (he : e < 10) : okP (nI f) (nI e) := ⟨(rg_iff (by omega) (by decide) (by decide)).mpr ⟨Nat.zero_le _, by omega⟩, (rg_iff (by omega) (by decide) (by decide)).mpr ⟨Nat.zero_le _, by omega⟩⟩
theorem plN_n {f e : Nat} (hf : f < 6) (he : e < 10) : plN (nI f) (nI e) = 10 * f + e := by
  unfold plN
  rw [cl_nI (by omega), cl_nI (by omega)]
theorem rg_n {n lo hi : Nat} (h1 : lo ≤ n) (h2 : n ≤ hi) (h : hi < 2 ^ 31) : rg (nI n) lo hi := (rg_iff (by omega) (by omega) h).mpr ⟨h1, h2⟩
theorem rg_x {n lo hi : Nat} (h1 : n < lo ∨ hi < n) (h2 : n < 2 ^ 31) (h3 : lo < 2 ^ 31) (h : hi < 2 ^ 31) : ¬ rg (nI n) lo hi := fun z => by
  have := (rg_iff h2 h3 h).mp z
  omega
theorem rg_m1 {lo hi : Nat} (h : lo < 2 ^ 31) : ¬ rg (-1) lo hi := fun z => by
  have h1 := z.1
  rw [Int32.le_iff_toInt_le, nI_toInt h, show (-1 : Int32).toInt = -1 from by decide] at h1
  omega
theorem ri_n {i n : Nat} (h : i < n) (hn : n < 2 ^ 31) : ri (nI i) n := ⟨nI_le (Nat.zero_le _) (by omega), nI_lt h hn⟩
theorem ri_x {n : Nat} (hn : n < 2 ^ 31) : ¬ ri (nI n) n := fun z => by
  have h1 := z.2
  rw [nI_ltI hn hn] at h1
  omega
theorem ri_m1 {n : Nat} : ¬ ri (-1) n := fun z => by
  have h1 := z.1
  rw [Int32.le_iff_toInt_le, nI_toInt (by decide), show (-1 : Int32).toInt = -1 from by decide] at h1
  omega
section NVK3
variable {p : Program} {l : Launch} {e : Env} {R : Room} {s : State} {m : MethodId} {args : Array Value} {below : List Frame} {meth : Method} {c : Code} {H : Heap} {locs : List Loc} {cells slots : Nat} {Q : State → Prop}
variable {cc : ByteArray} {pc : Nat} {ls : Array Slot} {rest : List Value}
theorem nv_and1 {x : Nat} (h : x = 0 ∨ x = 1) (hx : p.tables.exec = Jvm.exec) (hb : c.code = cc) (hdg : decode cc pc = .ok (.iand, 1)) (k : W p l e R s m args below meth c H locs cells slots Q (F0 m (pc + 1) ls (.int (nI x) :: rest))) : W p l e R s m args below meth c H locs cells slots Q (F0 m pc ls (.int (nI 1) :: .int (nI x) :: rest)) := lv_iand hx hb hdg (by rw [and_1 h]; exact k)
theorem nv_and0 {x : Nat} (h : x = 0 ∨ x = 1) (hx : p.tables.exec = Jvm.exec) (hb : c.code = cc) (hdg : decode cc pc = .ok (.iand, 1)) (k : W p l e R s m args below meth c H locs cells slots Q (F0 m (pc + 1) ls (.int (nI 0) :: rest))) : W p l e R s m args below meth c H locs cells slots Q (F0 m pc ls (.int (nI 0) :: .int (nI x) :: rest)) := lv_iand hx hb hdg (by rw [and_0 h]; exact k)
end NVK3
