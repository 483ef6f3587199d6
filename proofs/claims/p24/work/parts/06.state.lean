/-! what a state of the store is: a table of numbers; what each call answers over it; how class and reference hold it -/
abbrev St : Type := Nat → Nat → Nat
def s_now (σ : St) : Nat := σ 0 0
def s_n (σ : St) : Nat := σ 1 0
def s_tk (σ : St) : Nat := σ 2 0
def s_k (σ : St) : Nat := σ 3 0
def s_lt (σ : St) : Nat → Nat := σ 4
def s_pr (σ : St) : Nat → Nat := σ 5
def s_ev (σ : St) : Nat → Nat := σ 6
def s_ar (σ : St) : Nat → Nat := σ 7
def s_vl (σ : St) : Nat → Nat := σ 8
/-- the online copy: 0 is none, r + 1 is row r -/
def s_cp (σ : St) : Nat → Nat := σ 9
def s_sp (σ : St) : Nat → Nat := σ 10
def s_sa (σ : St) : Nat → Nat := σ 11
/-- what was served: 0 is none, r + 1 is row r -/
def s_sv (σ : St) : Nat → Nat := σ 12
def setS (σ : St) (k : Nat) (g : Nat → Nat) : St := fun j => if j = k then g else σ j
/-- what always holds of it -/
def sI (σ : St) : Prop := s_now σ ≤ 10000 ∧ s_n σ ≤ 200 ∧ s_tk σ ≤ s_n σ ∧ s_k σ ≤ 200 ∧ (∀ f, f < 6 → s_lt σ f ≤ 10000) ∧
  (∀ r, r < s_n σ → s_pr σ r < 60 ∧ s_ev σ r ≤ s_ar σ r ∧ s_ar σ r ≤ s_now σ ∧ s_vl σ r ≤ 100000) ∧
  (∀ q, q < 60 → s_cp σ q ≤ s_tk σ ∧ ∀ r, s_cp σ q = r + 1 → s_pr σ r = q) ∧
  (∀ i, i < s_k σ → s_sp σ i < 60 ∧ s_sa σ i ≤ s_now σ ∧ s_sv σ i ≤ s_n σ)
-- the answers
def q_best (σ : St) (q t k : Nat) : Nat → Nat
  | 0 => 0
  | r + 1 => if s_pr σ r = q ∧ s_ev σ r ≤ t ∧ s_ar σ r ≤ k ∧ (q_best σ q t k r = 0 ∨ s_ev σ (q_best σ q t k r - 1) ≤ s_ev σ r) then r + 1 else q_best σ q t k r
def q_fr (σ : St) (o t : Nat) : Nat := if o = 0 then 0 else if t ≤ s_ev σ (o - 1) + s_lt σ (s_pr σ (o - 1) / 10) then o else 0
def q_join (σ : St) (q t k : Nat) : Nat := q_fr σ (q_best σ q t k (s_n σ)) t
def q_sum (σ : St) (q a b : Nat) : Nat → Nat
  | 0 => 0
  | r + 1 => q_sum σ q a b r + (if s_pr σ r = q ∧ a ≤ s_ev σ r ∧ s_ev σ r ≤ b then s_vl σ r else 0)
def q_fst (σ : St) (len row : Nat) : Nat → Nat
  | 0 => 1
  | r + 1 => if q_fst σ len row r = 1 ∧ (¬ s_pr σ r = s_pr σ row ∨ ¬ s_ev σ r / len = s_ev σ row / len) then 1 else 0
def q_its (σ : St) (q len r : Nat) : Nat := if s_pr σ r = q ∧ q_fst σ len r r = 1 then q_sum σ q (s_ev σ r / len * len) (s_ev σ r / len * len + len - 1) (s_n σ) else 0
def q_gt (σ : St) (q len : Nat) : Nat → Nat
  | 0 => 0
  | r + 1 => if q_gt σ q len r < q_its σ q len r then q_its σ q len r else q_gt σ q len r
def q_tl (σ : St) (q len : Nat) : Nat → Nat
  | 0 => 0
  | r + 1 => q_tl σ q len r + (if s_pr σ r = q ∧ q_fst σ len r r = 1 then 1 else 0)
/-- at how many of the first j times the answer was revised -/
def q_rev (σ : St) (q T : Nat) : Nat → Nat
  | 0 => 0
  | j + 1 => q_rev σ q T j + (if q_join σ q (j * T) (s_now σ) = q_join σ q (j * T) (j * T) then 0 else 1)
def q_skew (σ : St) : Nat → Nat
  | 0 => 0
  | q + 1 => q_skew σ q + (if q_fr σ (s_cp σ q) (s_now σ) = q_join σ q (s_now σ) (s_now σ) then 0 else 1)
def q_uns (σ : St) : Nat → Nat
  | 0 => 0
  | i + 1 => q_uns σ i + (if s_sv σ i = q_join σ (s_sp σ i) (s_sa σ i) (s_sa σ i) then 0 else 1)
/-- one change is taken in -/
def q_take1 (σ : St) : St :=
  setS (if s_cp σ (s_pr σ (s_tk σ)) = 0 ∨ s_ev σ (s_cp σ (s_pr σ (s_tk σ)) - 1) ≤ s_ev σ (s_tk σ) then setS σ 9 (uN (s_cp σ) (s_pr σ (s_tk σ)) (s_tk σ + 1)) else σ) 2 (fun _ => s_tk σ + 1)
def q_take (σ : St) : Nat → St
  | 0 => σ
  | c + 1 => q_take1 (q_take σ c)
-- the class's chains
def ins (ev : Nat → Nat) (x : Nat) : List Nat → List Nat
  | [] => [x]
  | y :: l => if ev x < ev y then y :: ins ev x l else x :: y :: l
def chn (σ : St) (q : Nat) : Nat → List Nat
  | 0 => []
  | r + 1 => if s_pr σ r = q then ins (s_ev σ) r (chn σ q r) else chn σ q r
/-- the links from o on are the rows of the list -/
def seg (ol : Nat → Nat) : Nat → List Nat → Prop
  | o, [] => o = 0
  | o, x :: l => o = x + 1 ∧ seg ol (ol x) l
def xI (σ : St) (hd ol : Nat → Nat) : Prop := ∀ q, q < 60 → seg ol (hd q) (chn σ q (s_n σ))
-- the worlds
abbrev rowE (ra ol : Nat → Nat) (σ : St) (i : Nat) : Nat × va_E := (ra i, .inr (0, [.int (nI i), .int (nI (s_pr σ i / 10)), .int (nI (s_pr σ i % 10)), .int (nI (s_ev σ i)), .int (nI (s_ar σ i)), .int (nI (s_vl σ i)), va_rf (rfN ra (ol i))]))
abbrev srvE (sb : Nat → Nat) (σ : St) (i : Nat) : Nat × va_E := (sb i, .inr (1, [.int (nI (s_sp σ i / 10)), .int (nI (s_sp σ i % 10)), .int (nI (s_sa σ i)), .int (eN (s_sv σ i))]))
abbrev xW (cI cR cS : ClassId) (x0 : Nat) (b ra sb hd ol : Nat → Nat) (σ : St) : va_W :=
  (x0, .inr (2, [.int (nI (s_now σ)), .ref (b 0), .ref (b 1), .int (nI (s_n σ)), .ref (b 2), .ref (b 3), .int (nI (s_tk σ)), .ref (b 4), .int (nI (s_k σ))])) ::
  (b 0, .inl (cI, 6, .inl (fun j => nI (s_lt σ j)))) :: (b 1, .inl (cR, 200, .inr (.inr (.inr (.inr (fun j => if j < s_n σ then some (ra j) else none)))))) ::
  (b 2, .inl (cR, 60, .inr (.inr (.inr (.inr (fun j => rfN ra (hd j))))))) :: (b 3, .inl (cR, 60, .inr (.inr (.inr (.inr (fun j => rfN ra (s_cp σ j))))))) ::
  (b 4, .inl (cS, 200, .inr (.inr (.inr (.inr (fun j => if j < s_k σ then some (sb j) else none)))))) ::
  ((List.range (s_n σ)).map (rowE ra ol σ) ++ (List.range (s_k σ)).map (srvE sb σ))
theorem xRow {D : va_G} {cI cR cS : ClassId} {x0 : Nat} {b ra sb hd ol : Nat → Nat} {σ : St} {H : Heap} (h : va_P D vwCl (xW cI cR cS x0 b ra sb hd ol σ) H) {i : Nat} (hi : i < s_n σ) : va_P D vwCl [rowE ra ol σ i] H := by
  intro k q hk
  cases k with
  | zero =>
    cases hk
    refine h (i + 6) _ ?_
    show ((List.range (s_n σ)).map (rowE ra ol σ) ++ (List.range (s_k σ)).map (srvE sb σ))[i]? = _
    rw [List.getElem?_append_left (by simpa using hi)]
    simp [hi]
  | succ k => simp at hk
theorem xSrv {D : va_G} {cI cR cS : ClassId} {x0 : Nat} {b ra sb hd ol : Nat → Nat} {σ : St} {H : Heap} (h : va_P D vwCl (xW cI cR cS x0 b ra sb hd ol σ) H) {i : Nat} (hi : i < s_k σ) : va_P D vwCl [srvE sb σ i] H := by
  intro k q hk
  cases k with
  | zero =>
    cases hk
    refine h (s_n σ + i + 6) _ ?_
    show ((List.range (s_n σ)).map (rowE ra ol σ) ++ (List.range (s_k σ)).map (srvE sb σ))[s_n σ + i]? = _
    rw [List.getElem?_append_right (by simp)]
    simp [hi]
  | succ k => simp at hk
theorem mem_ins {ev : Nat → Nat} {x y : Nat} {l : List Nat} : y ∈ ins ev x l ↔ y = x ∨ y ∈ l := by
  induction l with
  | nil => simp [ins]
  | cons z l ih =>
    simp only [ins]
    split <;> simp [ih] <;> constructor <;> (intro h; rcases h with h | h | h <;> simp [h])
theorem mem_chn {σ : St} {q y : Nat} : ∀ {n : Nat}, y ∈ chn σ q n ↔ y < n ∧ s_pr σ y = q := by
  intro n
  induction n with
  | zero => simp [chn]
  | succ n ih =>
    simp only [chn]
    split
    · rename_i h
      rw [mem_ins, ih]
      constructor
      · rintro (rfl | ⟨h1, h2⟩)
        · exact ⟨Nat.lt_succ_self _, h⟩
        · exact ⟨by omega, h2⟩
      · rintro ⟨h1, h2⟩
        by_cases e : y = n
        · exact Or.inl e
        · exact Or.inr ⟨by omega, h2⟩
    · rename_i h
      rw [ih]
      constructor
      · rintro ⟨h1, h2⟩
        exact ⟨by omega, h2⟩
      · rintro ⟨h1, h2⟩
        refine ⟨?_, h2⟩
        by_cases e : y = n
        · subst e; exact absurd h2 h
        · omega
