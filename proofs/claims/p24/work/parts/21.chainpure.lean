/-! the chains against the tables: what a walk over a chain finds is what the look through all rows finds -/
/-- events fall, rows differ -/
def srt (σ : St) (l : List Nat) : Prop := l.Pairwise (fun a b => s_ev σ b ≤ s_ev σ a ∧ a ≠ b)
theorem srt_ins {σ : St} {x : Nat} : ∀ {l : List Nat}, srt σ l → x ∉ l → srt σ (ins (s_ev σ) x l)
  | [], _, _ => by simp [ins, srt]
  | y :: l, h, hx => by
    have h1 := List.pairwise_cons.mp h
    have hxy : x ≠ y := fun e => hx (by rw [e]; exact List.mem_cons_self)
    have hxl : x ∉ l := fun e => hx (List.mem_cons_of_mem _ e)
    simp only [ins]
    split
    · rename_i hlt
      refine List.pairwise_cons.mpr ⟨fun z hz => ?_, srt_ins h1.2 hxl⟩
      rcases mem_ins.mp hz with rfl | hz
      · exact ⟨Nat.le_of_lt hlt, fun e => hxy e.symm⟩
      · exact h1.1 z hz
    · rename_i hge
      refine List.pairwise_cons.mpr ⟨fun z hz => ?_, h⟩
      rcases List.mem_cons.mp hz with rfl | hz2
      · exact ⟨Nat.not_lt.mp hge, hxy⟩
      · exact ⟨Nat.le_trans (h1.1 z hz2).1 (Nat.not_lt.mp hge), fun e => hxl (by rw [e]; exact hz2)⟩
theorem srt_chn (σ : St) (q : Nat) : ∀ n : Nat, srt σ (chn σ q n)
  | 0 => List.Pairwise.nil
  | n + 1 => by
    simp only [chn]
    split
    · exact srt_ins (srt_chn σ q n) (fun h => absurd (mem_chn.mp h).1 (Nat.lt_irrefl n))
    · exact srt_chn σ q n
theorem c_first_mem {σ : St} {t k r : Nat} : ∀ {l : List Nat}, c_first σ t k l = r + 1 → r ∈ l ∧ s_ev σ r ≤ t ∧ s_ar σ r ≤ k
  | [], h => by simp [c_first] at h
  | x :: l, h => by
    simp only [c_first] at h
    split at h
    · rename_i hx
      have : x = r := by omega
      subst this
      exact ⟨List.mem_cons_self, hx⟩
    · have := c_first_mem h
      exact ⟨List.mem_cons_of_mem _ this.1, this.2⟩
theorem c_first_ins {σ : St} {t k x : Nat} : ∀ {l : List Nat}, srt σ l → c_first σ t k (ins (s_ev σ) x l) = if s_ev σ x ≤ t ∧ s_ar σ x ≤ k ∧ (c_first σ t k l = 0 ∨ s_ev σ (c_first σ t k l - 1) ≤ s_ev σ x) then x + 1 else c_first σ t k l
  | [], _ => by
    simp only [ins, c_first]
    by_cases h : s_ev σ x ≤ t ∧ s_ar σ x ≤ k
    · rw [if_pos h, if_pos ⟨h.1, h.2, Or.inl trivial⟩]
    · rw [if_neg h, if_neg (fun z => h ⟨z.1, z.2.1⟩)]
  | y :: l, hs => by
    have h1 := List.pairwise_cons.mp hs
    simp only [ins]
    split
    · rename_i hlt
      simp only [c_first]
      by_cases hy : s_ev σ y ≤ t ∧ s_ar σ y ≤ k
      · simp only [if_pos hy]
        rw [if_neg]
        rintro ⟨-, -, h | h⟩
        · omega
        · rw [Nat.add_sub_cancel] at h; omega
      · simp only [if_neg hy]
        exact c_first_ins h1.2
    · rename_i hge
      by_cases hx : s_ev σ x ≤ t ∧ s_ar σ x ≤ k
      · rw [if_pos]
        · show (if _ then _ else _) = _
          rw [if_pos hx]
        · refine ⟨hx.1, hx.2, ?_⟩
          cases hc : c_first σ t k (y :: l) with
          | zero => exact Or.inl rfl
          | succ r =>
            refine Or.inr ?_
            rw [Nat.add_sub_cancel]
            rcases List.mem_cons.mp (c_first_mem hc).1 with e | e
            · rw [e]; omega
            · have := (h1.1 r e).1; omega
      · rw [if_neg (fun z => hx ⟨z.1, z.2.1⟩)]
        show (if _ then _ else _) = _
        rw [if_neg hx]
theorem c_first_best {σ : St} (q t k : Nat) : ∀ n : Nat, c_first σ t k (chn σ q n) = q_best σ q t k n
  | 0 => rfl
  | n + 1 => by
    have ih := c_first_best (σ := σ) q t k n
    simp only [chn, q_best]
    by_cases h : s_pr σ n = q
    · rw [if_pos h, c_first_ins (srt_chn σ q n), ih]
      by_cases h2 : s_ev σ n ≤ t ∧ s_ar σ n ≤ k ∧ (q_best σ q t k n = 0 ∨ s_ev σ (q_best σ q t k n - 1) ≤ s_ev σ n)
      · rw [if_pos h2, if_pos ⟨h, h2⟩]
      · rw [if_neg h2, if_neg (fun z => h2 z.2)]
    · rw [if_neg h, ih, if_neg (fun z => h z.1)]
theorem c_sum_ins {σ : St} (x y z : Nat) : ∀ l : List Nat, c_sum σ x y (ins (s_ev σ) z l) = (if x ≤ s_ev σ z ∧ s_ev σ z ≤ y then s_vl σ z else 0) + c_sum σ x y l
  | [] => rfl
  | w :: l => by
    simp only [ins]
    split
    · simp only [c_sum]
      rw [c_sum_ins x y z l]
      omega
    · rfl
theorem c_sum_sum {σ : St} (q x y : Nat) : ∀ n : Nat, c_sum σ x y (chn σ q n) = q_sum σ q x y n
  | 0 => rfl
  | n + 1 => by
    have ih := c_sum_sum (σ := σ) q x y n
    simp only [chn, q_sum]
    by_cases h : s_pr σ n = q
    · rw [if_pos h, c_sum_ins, ih]
      by_cases h2 : x ≤ s_ev σ n ∧ s_ev σ n ≤ y
      · rw [if_pos h2, if_pos ⟨h, h2⟩]; omega
      · rw [if_neg h2, if_neg (fun z => h2 z.2)]; omega
    · rw [if_neg h, ih, if_neg (fun z => h z.1)]
      rfl
-- tiles
theorem q_fst_iff {σ : St} {len row : Nat} : ∀ {r : Nat}, q_fst σ len row r = 1 ↔ ∀ j, j < r → ¬ (s_pr σ j = s_pr σ row ∧ s_ev σ j / len = s_ev σ row / len)
  | 0 => ⟨fun _ j hj => absurd hj (Nat.not_lt_zero j), fun _ => rfl⟩
  | r + 1 => by
    have ih := q_fst_iff (σ := σ) (len := len) (row := row) (r := r)
    simp only [q_fst]
    by_cases h : q_fst σ len row r = 1 ∧ (¬ s_pr σ r = s_pr σ row ∨ ¬ s_ev σ r / len = s_ev σ row / len)
    · rw [if_pos h]
      refine ⟨fun _ j hj => ?_, fun _ => rfl⟩
      rcases Nat.lt_or_ge j r with h1 | h1
      · exact ih.mp h.1 j h1
      · have : j = r := by omega
        subst this
        rintro ⟨e1, e2⟩
        rcases h.2 with h2 | h2
        · exact h2 e1
        · exact h2 e2
    · rw [if_neg h]
      refine ⟨fun z => absurd z (by decide), fun z => absurd ⟨ih.mpr (fun j hj => z j (by omega)), ?_⟩ h⟩
      have := z r (Nat.lt_succ_self r)
      by_cases e1 : s_pr σ r = s_pr σ row
      · exact Or.inr (fun e2 => this ⟨e1, e2⟩)
      · exact Or.inl e1
theorem tile_le {σ : St} {len a b : Nat} (h : s_ev σ a ≤ s_ev σ b) : s_ev σ a / len ≤ s_ev σ b / len := Nat.div_le_div_right h
theorem c_tl_ins {σ : St} {len x : Nat} : ∀ {l : List Nat} (tl : Nat), srt σ l → (tl = 0 ∨ ((∀ y ∈ l, s_ev σ y / len + 1 ≤ tl) ∧ s_ev σ x / len + 1 ≤ tl)) →
    ∀ (e : Nat), ((s_ev σ x / len + 1 = tl ∨ ∃ y ∈ l, s_ev σ y / len = s_ev σ x / len) → e = 0) → (¬ (s_ev σ x / len + 1 = tl ∨ ∃ y ∈ l, s_ev σ y / len = s_ev σ x / len) → e = 1) → c_tl σ len (ins (s_ev σ) x l) tl = c_tl σ len l tl + e
  | [], tl, _, _, e, h0, h1 => by
    simp only [ins, c_tl]
    by_cases h : s_ev σ x / len + 1 = tl
    · rw [if_pos h, h0 (Or.inl h)]
    · rw [if_neg h, h1 (by rintro (z | ⟨y, hy, -⟩); exact h z; cases hy)]
  | y :: l, tl, hs, hb, e, h0, h1 => by
    have hp := List.pairwise_cons.mp hs
    have hle : ∀ z ∈ l, s_ev σ z / len ≤ s_ev σ y / len := fun z hz => tile_le (hp.1 z hz).1
    simp only [ins]
    split
    · rename_i hlt
      have hxy : s_ev σ x / len ≤ s_ev σ y / len := tile_le (Nat.le_of_lt hlt)
      simp only [c_tl]
      rw [c_tl_ins (s_ev σ y / len + 1) hp.2 (Or.inr ⟨fun z hz => Nat.succ_le_succ (hle z hz), Nat.succ_le_succ hxy⟩) e (fun z => h0 ?_) (fun z => h1 (fun w => z ?_))]
      · omega
      · rcases z with z | ⟨w, hw, e2⟩
        · exact Or.inr ⟨y, List.mem_cons_self, by omega⟩
        · exact Or.inr ⟨w, List.mem_cons_of_mem _ hw, e2⟩
      · rcases w with w | ⟨w, hw, e2⟩
        · rcases hb with hb | ⟨hb1, hb2⟩
          · exact absurd (w.trans hb) (Nat.succ_ne_zero _)
          · have := hb1 y List.mem_cons_self
            exact Or.inl (by omega)
        · rcases List.mem_cons.mp hw with rfl | hw
          · exact Or.inl (by omega)
          · exact Or.inr ⟨w, hw, e2⟩
    · rename_i hge
      have hyx : s_ev σ y / len ≤ s_ev σ x / len := tile_le (Nat.not_lt.mp hge)
      simp only [c_tl]
      have hex : (∃ z ∈ y :: l, s_ev σ z / len = s_ev σ x / len) ↔ s_ev σ y / len = s_ev σ x / len := by
        constructor
        · rintro ⟨z, hz, e2⟩
          rcases List.mem_cons.mp hz with rfl | hz
          · exact e2
          · have := hle z hz; omega
        · intro e2; exact ⟨y, List.mem_cons_self, e2⟩
      rw [hex] at h0 h1
      by_cases h2 : s_ev σ x / len + 1 = tl
      · rw [h0 (Or.inl h2), if_pos h2]
        by_cases h3 : s_ev σ y / len = s_ev σ x / len
        · rw [if_pos (by omega), if_pos (by omega)]; omega
        · rw [if_neg (by omega), if_neg (by omega)]; omega
      · rw [if_neg h2]
        by_cases h3 : s_ev σ y / len = s_ev σ x / len
        · rw [h0 (Or.inr h3), if_pos (by omega), if_neg (by omega)]; omega
        · rw [h1 (by rintro (z | z); exact h2 z; exact h3 z), if_neg (by omega), if_neg (by
            intro h4
            rcases hb with hb | ⟨hb1, hb2⟩
            · exact absurd (h4.trans hb) (Nat.succ_ne_zero _)
            · omega)]; omega
theorem c_tl_n {σ : St} (q len : Nat) : ∀ n : Nat, c_tl σ len (chn σ q n) 0 = q_tl σ q len n
  | 0 => rfl
  | n + 1 => by
    have ih := c_tl_n (σ := σ) q len n
    simp only [chn, q_tl]
    by_cases h : s_pr σ n = q
    · rw [if_pos h]
      have hiff : (∃ y ∈ chn σ q n, s_ev σ y / len = s_ev σ n / len) ↔ ¬ q_fst σ len n n = 1 := by
        rw [q_fst_iff]
        constructor
        · rintro ⟨y, hy, e⟩ hall
          exact hall y (mem_chn.mp hy).1 ⟨by rw [(mem_chn.mp hy).2, h], e⟩
        · intro hn
          by_cases hq : ∃ y ∈ chn σ q n, s_ev σ y / len = s_ev σ n / len
          · exact hq
          · exact absurd (fun j hj hh => hq ⟨j, mem_chn.mpr ⟨hj, by rw [hh.1, h]⟩, hh.2⟩) hn
      rw [c_tl_ins 0 (srt_chn σ q n) (Or.inl rfl) (if s_pr σ n = q ∧ q_fst σ len n n = 1 then 1 else 0), ih]
      · rintro (z | z)
        · exact absurd z (Nat.succ_ne_zero _)
        · rw [if_neg (fun w => hiff.mp z w.2)]
      · intro z
        rw [if_pos ⟨h, by
          by_cases hq : q_fst σ len n n = 1
          · exact hq
          · exact absurd (Or.inr (hiff.mpr hq)) z⟩]
    · rw [if_neg h, ih, if_neg (fun z => h z.1)]
      rfl
theorem c_tl_tl {σ : St} (q len : Nat) (_ : 1 ≤ len) : c_tl σ len (chn σ q (s_n σ)) 0 = q_tl σ q len (s_n σ) := c_tl_n q len _
-- the greatest tile
/-- the sum of a tile's rows in a list -/
def tS (σ : St) (len : Nat) (l : List Nat) (t : Nat) : Nat := c_sum σ (t * len) (t * len + len - 1) l
theorem in_tile {len ev t : Nat} (hl : 1 ≤ len) : (t * len ≤ ev ∧ ev ≤ t * len + len - 1) ↔ ev / len = t := by
  constructor
  · rintro ⟨h1, h2⟩
    exact Nat.div_eq_of_lt_le h1 (by rw [Nat.succ_mul]; omega)
  · rintro rfl
    have h1 := Nat.div_mul_le_self ev len
    have h2 := Nat.lt_div_mul_add (a := ev) (b := len) (by omega)
    omega
theorem tS_cons {σ : St} {len x t : Nat} {l : List Nat} (hl : 1 ≤ len) : tS σ len (x :: l) t = (if s_ev σ x / len = t then s_vl σ x else 0) + tS σ len l t := by
  unfold tS
  simp only [c_sum]
  by_cases h : s_ev σ x / len = t
  · rw [if_pos h, if_pos ((in_tile hl).mpr h)]
  · rw [if_neg h, if_neg (fun z => h ((in_tile hl).mp z))]
theorem tS_none {σ : St} {len t : Nat} (hl : 1 ≤ len) : ∀ {l : List Nat}, (∀ y ∈ l, ¬ s_ev σ y / len = t) → tS σ len l t = 0
  | [], _ => rfl
  | x :: l, h => by
    rw [tS_cons hl, if_neg (h x List.mem_cons_self), tS_none hl (fun y hy => h y (List.mem_cons_of_mem _ hy))]
theorem c_gt_spec {σ : St} {len : Nat} (hl : 1 ≤ len) : ∀ {l : List Nat} (g s tl : Nat), srt σ l → (tl = 0 ∨ ∀ y ∈ l, s_ev σ y / len + 1 ≤ tl) →
    g ≤ c_gt σ len l g s tl ∧ (∀ y ∈ l, tS σ len l (s_ev σ y / len) + (if s_ev σ y / len + 1 = tl then s else 0) ≤ c_gt σ len l g s tl) ∧
    (c_gt σ len l g s tl ≤ g ∨ ∃ y ∈ l, c_gt σ len l g s tl ≤ tS σ len l (s_ev σ y / len) + (if s_ev σ y / len + 1 = tl then s else 0))
  | [], g, s, tl, _, _ => ⟨Nat.le_refl _, fun y hy => absurd hy List.not_mem_nil, Or.inl (Nat.le_refl _)⟩
  | x :: l, g, s, tl, hs, hb => by
    have hp := List.pairwise_cons.mp hs
    have hle : ∀ z ∈ l, s_ev σ z / len ≤ s_ev σ x / len := fun z hz => tile_le (hp.1 z hz).1
    obtain ⟨h1, h2, h3⟩ := c_gt_spec hl (l := l) (max g (c_s σ len x s tl)) (c_s σ len x s tl) (s_ev σ x / len + 1) hp.2 (Or.inr (fun y hy => Nat.succ_le_succ (hle y hy)))
    have hV : c_gt σ len (x :: l) g s tl = c_gt σ len l (max g (c_s σ len x s tl)) (c_s σ len x s tl) (s_ev σ x / len + 1) := rfl
    rw [hV]
    have hx0 : tS σ len (x :: l) (s_ev σ x / len) = s_vl σ x + tS σ len l (s_ev σ x / len) := by rw [tS_cons hl, if_pos rfl]
    have hsx : c_s σ len x s tl = (if s_ev σ x / len + 1 = tl then s else 0) + s_vl σ x := rfl
    have htot : tS σ len (x :: l) (s_ev σ x / len) + (if s_ev σ x / len + 1 = tl then s else 0) = tS σ len l (s_ev σ x / len) + c_s σ len x s tl := by rw [hx0, hsx]; omega
    have hne : ∀ y ∈ l, ¬ s_ev σ y / len = s_ev σ x / len → (if s_ev σ y / len + 1 = tl then s else 0) = 0 := by
      intro y hy hn
      rw [if_neg]
      intro h4
      have := hle y hy
      rcases hb with hb | hb
      · exact absurd (h4.trans hb) (Nat.succ_ne_zero _)
      · have := hb x List.mem_cons_self
        omega
    have hother : ∀ y ∈ l, ¬ s_ev σ y / len = s_ev σ x / len → tS σ len (x :: l) (s_ev σ y / len) = tS σ len l (s_ev σ y / len) := by
      intro y hy hn
      rw [tS_cons hl, if_neg (fun z => hn z.symm), Nat.zero_add]
    have hX : tS σ len l (s_ev σ x / len) + c_s σ len x s tl ≤ c_gt σ len l (max g (c_s σ len x s tl)) (c_s σ len x s tl) (s_ev σ x / len + 1) := by
      by_cases hq : ∃ z ∈ l, s_ev σ z / len = s_ev σ x / len
      · obtain ⟨z, hz, e⟩ := hq
        have := h2 z hz
        rw [e, if_pos rfl] at this
        exact this
      · rw [tS_none hl (fun y hy e => hq ⟨y, hy, e⟩), Nat.zero_add]
        omega
    refine ⟨by omega, ?_, ?_⟩
    · intro y hy
      by_cases e : s_ev σ y / len = s_ev σ x / len
      · rw [e, htot]; exact hX
      · rcases List.mem_cons.mp hy with rfl | hy
        · exact absurd rfl e
        · rw [hother y hy e, hne y hy e]
          have := h2 y hy
          rw [if_neg (by omega)] at this
          exact this
    · rcases h3 with h3 | ⟨y, hy, h3⟩
      · rcases Nat.le_total (c_s σ len x s tl) g with hg | hg
        · exact Or.inl (by rw [Nat.max_eq_left hg] at h3 ⊢; exact h3)
        · refine Or.inr ⟨x, List.mem_cons_self, ?_⟩
          rw [htot]
          rw [Nat.max_eq_right hg] at h3 ⊢
          omega
      · by_cases e : s_ev σ y / len = s_ev σ x / len
        · refine Or.inr ⟨x, List.mem_cons_self, ?_⟩
          rw [e, if_pos rfl] at h3
          rw [htot]; exact h3
        · refine Or.inr ⟨y, List.mem_cons_of_mem _ hy, ?_⟩
          rw [hother y hy e, hne y hy e]
          rw [if_neg (by omega)] at h3
          exact h3
theorem q_its_pos {σ : St} {q len r : Nat} (h1 : s_pr σ r = q) (h2 : q_fst σ len r r = 1) : q_its σ q len r = tS σ len (chn σ q (s_n σ)) (s_ev σ r / len) := by
  unfold q_its tS
  rw [if_pos ⟨h1, h2⟩, c_sum_sum]
theorem q_gt_spec {σ : St} {q len : Nat} : ∀ r : Nat, (∀ y, y < r → s_pr σ y = q → q_fst σ len y y = 1 → tS σ len (chn σ q (s_n σ)) (s_ev σ y / len) ≤ q_gt σ q len r) ∧
    (q_gt σ q len r = 0 ∨ ∃ y, y < r ∧ s_pr σ y = q ∧ q_gt σ q len r = tS σ len (chn σ q (s_n σ)) (s_ev σ y / len))
  | 0 => ⟨fun y hy => absurd hy (Nat.not_lt_zero y), Or.inl rfl⟩
  | r + 1 => by
    obtain ⟨h1, h2⟩ := q_gt_spec (σ := σ) (q := q) (len := len) r
    have hge : q_gt σ q len r ≤ q_gt σ q len (r + 1) ∧ q_its σ q len r ≤ q_gt σ q len (r + 1) := by
      simp only [q_gt]
      split <;> omega
    refine ⟨fun y hy e1 e2 => ?_, ?_⟩
    · rcases Nat.lt_or_ge y r with h3 | h3
      · exact Nat.le_trans (h1 y h3 e1 e2) hge.1
      · have : y = r := by omega
        subst this
        rw [← q_its_pos e1 e2]
        exact hge.2
    · by_cases h3 : q_gt σ q len r < q_its σ q len r
      · have h4 : q_gt σ q len (r + 1) = q_its σ q len r := by simp only [q_gt]; rw [if_pos h3]
        by_cases h5 : s_pr σ r = q ∧ q_fst σ len r r = 1
        · exact Or.inr ⟨r, Nat.lt_succ_self r, h5.1, by rw [h4, q_its_pos h5.1 h5.2]⟩
        · have : q_its σ q len r = 0 := by unfold q_its; rw [if_neg h5]
          omega
      · have h4 : q_gt σ q len (r + 1) = q_gt σ q len r := by simp only [q_gt]; rw [if_neg h3]
        rw [h4]
        rcases h2 with h2 | ⟨y, hy, h5, h6⟩
        · exact Or.inl h2
        · exact Or.inr ⟨y, by omega, h5, h6⟩
/-- every row has a first one in its tile -/
theorem q_fst_ex {σ : St} {len : Nat} (y : Nat) : ∃ j, j ≤ y ∧ s_pr σ j = s_pr σ y ∧ s_ev σ j / len = s_ev σ y / len ∧ q_fst σ len j j = 1 := by
  induction y using Nat.strongRecOn with
  | ind y ih =>
    by_cases h : q_fst σ len y y = 1
    · exact ⟨y, Nat.le_refl _, rfl, rfl, h⟩
    · have h2 : ∃ j, j < y ∧ s_pr σ j = s_pr σ y ∧ s_ev σ j / len = s_ev σ y / len := by
        by_cases hq : ∃ j, j < y ∧ s_pr σ j = s_pr σ y ∧ s_ev σ j / len = s_ev σ y / len
        · exact hq
        · exact absurd (q_fst_iff.mpr (fun j hj hh => hq ⟨j, hj, hh.1, hh.2⟩)) h
      obtain ⟨j, hj, e1, e2⟩ := h2
      obtain ⟨i, hi, e3, e4, e5⟩ := ih j hj
      exact ⟨i, by omega, e3.trans e1, e4.trans e2, e5⟩
theorem c_gt_gt {σ : St} (q len : Nat) (hl : 1 ≤ len) : c_gt σ len (chn σ q (s_n σ)) 0 0 0 = q_gt σ q len (s_n σ) := by
  obtain ⟨-, h2, h3⟩ := c_gt_spec (σ := σ) hl (l := chn σ q (s_n σ)) 0 0 0 (srt_chn σ q _) (Or.inl rfl)
  obtain ⟨g1, g2⟩ := q_gt_spec (σ := σ) (q := q) (len := len) (s_n σ)
  apply Nat.le_antisymm
  · rcases h3 with h3 | ⟨y, hy, h3⟩
    · omega
    · rw [if_neg (Nat.succ_ne_zero _), Nat.add_zero] at h3
      obtain ⟨hy1, hy2⟩ := mem_chn.mp hy
      obtain ⟨j, hj, e1, e2, e3⟩ := q_fst_ex (σ := σ) (len := len) y
      have := g1 j (by omega) (by rw [e1, hy2]) e3
      rw [e2] at this
      omega
  · rcases g2 with g2 | ⟨y, hy, e1, g2⟩
    · omega
    · have := h2 y (mem_chn.mpr ⟨hy, e1⟩)
      rw [if_neg (Nat.succ_ne_zero _)] at this
      omega
-- revised
def sumD (D : Nat → Nat) (T : Nat) : Nat → Nat
  | 0 => 0
  | j + 1 => sumD D T j + D (j * T)
theorem sumD_congr {D D' : Nat → Nat} {T : Nat} : ∀ {n : Nat}, (∀ j, j < n → D (j * T) = D' (j * T)) → sumD D T n = sumD D' T n
  | 0, _ => rfl
  | n + 1, h => by
    simp only [sumD]
    rw [sumD_congr (fun j hj => h j (by omega)), h n (Nat.lt_succ_self n)]
theorem mb_lt {e T j : Nat} (hT : 1 ≤ T) : j < c_mb e T ↔ j * T < e := by
  unfold c_mb
  rw [Nat.lt_iff_add_one_le, Nat.le_div_iff_mul_le (by omega), Nat.succ_mul]
  omega
theorem c_mb_le {x y T : Nat} (h : x ≤ y) : c_mb x T ≤ c_mb y T := Nat.div_le_div_right (by omega)
theorem sumD_range {D : Nat → Nat} {T a b m : Nat} (hT : 1 ≤ T) : ∀ i : Nat, c_mb a T + i ≤ m → (∀ j, c_mb a T ≤ j → j < m → D (j * T) = if j * T < b then 1 else 0) → sumD D T (c_mb a T + i) = sumD D T (c_mb a T) + (min (c_mb a T + i) (c_mb b T) - c_mb a T)
  | 0, _, _ => by
    show sumD D T (c_mb a T) = sumD D T (c_mb a T) + (min (c_mb a T) (c_mb b T) - c_mb a T)
    omega
  | i + 1, h, hD => by
    have ih := sumD_range (b := b) hT i (by omega) hD
    show sumD D T (c_mb a T + i) + D ((c_mb a T + i) * T) = _
    rw [ih, hD (c_mb a T + i) (by omega) (by omega)]
    by_cases hb : (c_mb a T + i) * T < b
    · rw [if_pos hb]
      have := (mb_lt hT).mpr hb
      omega
    · rw [if_neg hb]
      have : ¬ c_mb a T + i < c_mb b T := fun z => hb ((mb_lt hT).mp z)
      omega
/-- whether the answer at t was revised, over a chain -/
def dL (σ : St) (l : List Nat) (t : Nat) : Nat := if q_fr σ (c_first σ t (s_now σ) l) t = q_fr σ (c_first σ t t l) t then 0 else 1
theorem dL_low {σ : St} {x t : Nat} {l : List Nat} (h : t < s_ev σ x) : dL σ (x :: l) t = dL σ l t := by
  have a1 : ∀ k, c_first σ t k (x :: l) = c_first σ t k l := fun k => by
    simp only [c_first]
    rw [if_neg (by omega)]
  unfold dL
  rw [a1, a1]
theorem dL_high {σ : St} {x t f : Nat} {l : List Nat} (hs : srt σ (x :: l)) (hf : s_pr σ x / 10 = f) (hfl : ∀ y ∈ l, s_pr σ y / 10 = f) (har : s_ar σ x ≤ s_now σ) (h : s_ev σ x ≤ t) : dL σ (x :: l) t = if t < min (s_ev σ x + s_lt σ f + 1) (s_ar σ x) then 1 else 0 := by
  have hp := List.pairwise_cons.mp hs
  have a1 : c_first σ t (s_now σ) (x :: l) = x + 1 := by
    simp only [c_first]
    rw [if_pos ⟨h, har⟩]
  unfold dL
  rw [a1]
  by_cases h1 : s_ar σ x ≤ t
  · have a2 : c_first σ t t (x :: l) = x + 1 := by
      simp only [c_first]
      rw [if_pos ⟨h, h1⟩]
    rw [a2, if_pos rfl, if_neg (by omega)]
  · have a2 : c_first σ t t (x :: l) = c_first σ t t l := by
      simp only [c_first]
      rw [if_neg (by omega)]
    rw [a2]
    have hx : q_fr σ (x + 1) t = if t ≤ s_ev σ x + s_lt σ f then x + 1 else 0 := by
      unfold q_fr
      rw [if_neg (Nat.succ_ne_zero x), Nat.add_sub_cancel, hf]
    have ho : q_fr σ (c_first σ t t l) t ≠ x + 1 ∧ (¬ t ≤ s_ev σ x + s_lt σ f → q_fr σ (c_first σ t t l) t = 0) := by
      cases hc : c_first σ t t l with
      | zero => exact ⟨by simp [q_fr], fun _ => by simp [q_fr]⟩
      | succ r =>
        obtain ⟨hm, -, -⟩ := c_first_mem hc
        have hr := hp.1 r hm
        unfold q_fr
        rw [if_neg (Nat.succ_ne_zero r), Nat.add_sub_cancel, hfl r hm]
        constructor
        · split
          · have := hr.2; omega
          · omega
        · intro hn
          rw [if_neg (by omega)]
    rw [hx]
    by_cases h2 : t ≤ s_ev σ x + s_lt σ f
    · rw [if_pos h2, if_neg (fun z => ho.1 z.symm), if_pos (by omega)]
    · rw [if_neg h2, ho.2 h2, if_pos rfl, if_neg (by omega)]
theorem c_rev_sum {σ : St} {f T : Nat} (hT : 1 ≤ T) : ∀ {l : List Nat} (later : Nat), srt σ l → (∀ y ∈ l, s_pr σ y / 10 = f ∧ s_ar σ y ≤ s_now σ ∧ s_ev σ y ≤ later) → c_rev σ f T l later = sumD (dL σ l) T (c_mb later T)
  | [], later, _, _ => by
    show 0 = _
    have : ∀ n, sumD (dL σ []) T n = 0 := by
      intro n
      induction n with
      | zero => rfl
      | succ n ih => simp only [sumD, ih]; simp [dL, c_first]
    rw [this]
  | x :: l, later, hs, hb => by
    have hp := List.pairwise_cons.mp hs
    obtain ⟨hf, har, hev⟩ := hb x List.mem_cons_self
    have hfl : ∀ y ∈ l, s_pr σ y / 10 = f := fun y hy => (hb y (List.mem_cons_of_mem _ hy)).1
    have ih := c_rev_sum (σ := σ) (f := f) hT (l := l) (s_ev σ x) hp.2 (fun y hy => ⟨hfl y hy, (hb y (List.mem_cons_of_mem _ hy)).2.1, (hp.1 y hy).1⟩)
    have hm := c_mb_le (T := T) hev
    have hr := sumD_range (D := dL σ (x :: l)) (a := s_ev σ x) (b := min (s_ev σ x + s_lt σ f + 1) (s_ar σ x)) (m := c_mb later T) hT (c_mb later T - c_mb (s_ev σ x) T) (by omega) (fun j h1 h2 => dL_high hs hf hfl har (by
      have : ¬ j < c_mb (s_ev σ x) T := by omega
      rw [mb_lt hT] at this
      omega))
    rw [show c_mb (s_ev σ x) T + (c_mb later T - c_mb (s_ev σ x) T) = c_mb later T from by omega] at hr
    rw [hr, sumD_congr (D' := dL σ l) (fun j hj => dL_low ((mb_lt hT).mp hj)), ← ih]
    simp only [c_rev]
    have hru : c_ru σ f x later = min later (min (s_ev σ x + s_lt σ f + 1) (s_ar σ x)) := by unfold c_ru; omega
    rw [hru]
    have hmin : c_mb (min later (min (s_ev σ x + s_lt σ f + 1) (s_ar σ x))) T = min (c_mb later T) (c_mb (min (s_ev σ x + s_lt σ f + 1) (s_ar σ x)) T) := by
      rcases Nat.le_total later (min (s_ev σ x + s_lt σ f + 1) (s_ar σ x)) with h | h
      · rw [Nat.min_eq_left h, Nat.min_eq_left (c_mb_le h)]
      · rw [Nat.min_eq_right h, Nat.min_eq_right (c_mb_le h)]
    rw [hmin]
    split
    · omega
    · rename_i hn
      have := c_mb_le (T := T) (Nat.not_lt.mp hn)
      rw [hmin] at this
      omega
theorem q_rev_sum {σ : St} (q T : Nat) : ∀ j : Nat, q_rev σ q T j = sumD (dL σ (chn σ q (s_n σ))) T j
  | 0 => rfl
  | j + 1 => by
    simp only [q_rev, sumD]
    rw [q_rev_sum q T j]
    unfold dL q_join
    rw [c_first_best, c_first_best]
theorem c_rev_rev {σ : St} (hI : sI σ) (q T : Nat) (hT : 1 ≤ T) : c_rev σ (q / 10) T (chn σ q (s_n σ)) (s_now σ + 1) = q_rev σ q T (s_now σ / T + 1) := by
  rw [q_rev_sum, c_rev_sum hT (s_now σ + 1) (srt_chn σ q _)]
  · rw [show c_mb (s_now σ + 1) T = s_now σ / T + 1 from by
      unfold c_mb
      rw [show s_now σ + 1 + T - 1 = s_now σ + T from by omega, Nat.add_div_right _ (by omega)]]
  · intro y hy
    obtain ⟨h1, h2⟩ := mem_chn.mp hy
    obtain ⟨h3, h4, h5, h6⟩ := hI.2.2.2.2.2.1 y h1
    exact ⟨by rw [h2], h5, by omega⟩
