/-! a new row: the links behind its insertion, the world with one row, one serving more -/
theorem seg_congr {ol ol' : Nat → Nat} : ∀ {l : List Nat} {o : Nat}, (∀ y ∈ l, ol' y = ol y) → seg ol o l → seg ol' o l
  | [], _, _, h => h
  | x :: l, o, hc, h => ⟨h.1, by
    rw [hc x List.mem_cons_self]
    exact seg_congr (fun y hy => hc y (List.mem_cons_of_mem _ hy)) h.2⟩
/-- where a chain's first part ends -/
theorem seg_app {ol : Nat → Nat} : ∀ {pre suf : List Nat} {x o : Nat}, seg ol o (pre ++ x :: suf) → seg ol (ol x) suf
  | [], _, _, _, h => h.2
  | y :: pre, suf, x, o, h => seg_app (pre := pre) h.2
theorem seg_mid {ol : Nat → Nat} {c : Nat} : ∀ {pre suf : List Nat} {x o : Nat}, seg ol o (pre ++ x :: suf) → x ∉ pre → x ∉ suf → c ∉ pre → c ∉ suf → c ≠ x → seg (uN (uN ol c (ol x)) x (c + 1)) o (pre ++ x :: c :: suf)
  | [], suf, x, o, h, h1, h2, h3, h4, h5 => by
    refine ⟨h.1, ?_⟩
    rw [uN_s]
    refine ⟨rfl, ?_⟩
    rw [uN_n h5, uN_s]
    exact seg_congr (fun y hy => by rw [uN_n (fun e => h2 (by rw [← e]; exact hy)), uN_n (fun e => h4 (by rw [← e]; exact hy))]) h.2
  | y :: pre, suf, x, o, h, h1, h2, h3, h4, h5 => by
    have hyx : y ≠ x := fun e => h1 (by rw [e]; exact List.mem_cons_self)
    have hyc : y ≠ c := fun e => h3 (by rw [e]; exact List.mem_cons_self)
    refine ⟨h.1, ?_⟩
    rw [uN_n hyx, uN_n hyc]
    exact seg_mid (pre := pre) h.2 (fun e => h1 (List.mem_cons_of_mem _ e)) h2 (fun e => h3 (List.mem_cons_of_mem _ e)) h4 h5
theorem ins_split {ev : Nat → Nat} {c : Nat} {suf : List Nat} (hs : suf = [] ∨ ∃ z l, suf = z :: l ∧ ¬ ev c < ev z) : ∀ {pre : List Nat}, (∀ y ∈ pre, ev c < ev y) → ins ev c (pre ++ suf) = pre ++ c :: suf
  | [], _ => by
    rcases hs with rfl | ⟨z, l, rfl, h⟩
    · rfl
    · show (if ev c < ev z then _ else _) = _
      rw [if_neg h]
      rfl
  | y :: pre, hp => by
    show (if ev c < ev y then _ else _) = _
    rw [if_pos (hp y List.mem_cons_self)]
    show y :: ins ev c (pre ++ suf) = _
    rw [ins_split hs (fun z hz => hp z (List.mem_cons_of_mem _ hz))]
    rfl
/-- how putInChain leaves the links: hd and ol before, row c of pair q, its chain l -/
def putP (ev hd ol : Nat → Nat) (q c : Nat) (l : List Nat) (hd' ol' : Nat → Nat) : Prop := ∃ pre suf, l = pre ++ suf ∧ (∀ y ∈ pre, ev c < ev y) ∧ (suf = [] ∨ ∃ z l2, suf = z :: l2 ∧ ¬ ev c < ev z) ∧
  ((pre = [] ∧ hd' = uN hd q (c + 1) ∧ ol' = uN ol c (hd q)) ∨ ∃ pre2 x, pre = pre2 ++ [x] ∧ hd' = hd ∧ ol' = uN (uN ol c (ol x)) x (c + 1))
theorem putP_seg {ev hd ol hd' ol' : Nat → Nat} {q c : Nat} {l : List Nat} (h : putP ev hd ol q c l hd' ol') (hl : seg ol (hd q) l) (hc : c ∉ l) (hn : l.Nodup) : seg ol' (hd' q) (ins ev c l) := by
  obtain ⟨pre, suf, rfl, h1, h2, h3⟩ := h
  rw [ins_split h2 h1]
  rcases h3 with ⟨rfl, rfl, rfl⟩ | ⟨pre2, x, rfl, rfl, rfl⟩
  · rw [uN_s]
    refine ⟨rfl, ?_⟩
    rw [uN_s]
    exact seg_congr (fun y hy => uN_n (fun e => hc (by rw [← e]; exact hy))) hl
  · rw [List.append_assoc] at hl hc hn ⊢
    rw [List.nodup_append] at hn
    have hx2 : (x :: suf).Nodup := hn.2.1
    rw [List.nodup_cons] at hx2
    exact seg_mid hl (fun e => hn.2.2 x e x List.mem_cons_self rfl) hx2.1 (fun e => hc (List.mem_append_left _ e)) (fun e => hc (List.mem_append_right _ (List.mem_cons_of_mem _ e))) (fun e => hc (List.mem_append_right _ (by rw [e]; exact List.mem_cons_self)))
theorem putP_other {ev hd ol hd' ol' : Nat → Nat} {q c q2 : Nat} {l l2 : List Nat} (h : putP ev hd ol q c l hd' ol') (hq : q2 ≠ q) (hl : seg ol (hd q2) l2) (hc : c ∉ l2) (hd2 : ∀ y ∈ l, y ∉ l2) : seg ol' (hd' q2) l2 := by
  obtain ⟨pre, suf, rfl, h1, h2, h3⟩ := h
  rcases h3 with ⟨rfl, rfl, rfl⟩ | ⟨pre2, x, rfl, rfl, rfl⟩
  · rw [uN_n hq]
    exact seg_congr (fun y hy => uN_n (fun e => hc (by rw [← e]; exact hy))) hl
  · exact seg_congr (fun y hy => by
      rw [uN_n (fun e => hd2 x (List.mem_append_left _ (List.mem_append_right _ List.mem_cons_self)) (by rw [← e]; exact hy)), uN_n (fun e => hc (by rw [← e]; exact hy))]) hl
theorem srt_nodup {σ : St} {l : List Nat} (h : srt σ l) : l.Nodup := by
  unfold List.Nodup
  exact List.Pairwise.imp (fun h => h.2) h
-- the state behind an arrival
theorem ga_n (σ : St) (q v w : Nat) : s_n (g_arrive σ q v w) = s_n σ + 1 := rfl
theorem ga_pr (σ : St) (q v w : Nat) : s_pr (g_arrive σ q v w) = uN (s_pr σ) (s_n σ) q := rfl
theorem ga_ev (σ : St) (q v w : Nat) : s_ev (g_arrive σ q v w) = uN (s_ev σ) (s_n σ) v := rfl
theorem ga_ar (σ : St) (q v w : Nat) : s_ar (g_arrive σ q v w) = uN (s_ar σ) (s_n σ) (s_now σ) := rfl
theorem ga_vl (σ : St) (q v w : Nat) : s_vl (g_arrive σ q v w) = uN (s_vl σ) (s_n σ) w := rfl
theorem sI_arrive {σ : St} (hI : sI σ) {q v w : Nat} (hn : s_n σ < 200) (hq : q < 60) (hv : v ≤ s_now σ) (hw : w ≤ 100000) : sI (g_arrive σ q v w) := by
  obtain ⟨i_now, i_n, i_tk, i_k, i_lt, i_row, i_cp, i_srv⟩ := hI
  refine ⟨i_now, hn, Nat.le_succ_of_le i_tk, i_k, i_lt, ?_, ?_, ?_⟩
  · intro r hr
    rw [ga_n] at hr
    rw [ga_pr, ga_ev, ga_ar, ga_vl]
    by_cases e : r = s_n σ
    · subst e
      rw [uN_s, uN_s, uN_s, uN_s]
      exact ⟨hq, hv, Nat.le_refl _, hw⟩
    · rw [uN_n e, uN_n e, uN_n e, uN_n e]
      exact i_row r (by omega)
  · intro p hp
    obtain ⟨h1, h2⟩ := i_cp p hp
    refine ⟨h1, fun r hr => ?_⟩
    have h1' : s_cp σ p ≤ s_tk σ := h1
    have hr' : s_cp σ p = r + 1 := hr
    rw [ga_pr, uN_n (by omega)]
    exact h2 r hr'
  · intro i hi
    obtain ⟨h1, h2, h3⟩ := i_srv i hi
    exact ⟨h1, h2, Nat.le_succ_of_le h3⟩
theorem ins_congr {ev ev' : Nat → Nat} {c : Nat} : ∀ {l : List Nat}, ev' c = ev c → (∀ y ∈ l, ev' y = ev y) → ins ev' c l = ins ev c l
  | [], _, _ => rfl
  | y :: l, hc, h => by
    simp only [ins]
    rw [hc, h y List.mem_cons_self, ins_congr hc (fun z hz => h z (List.mem_cons_of_mem _ hz))]
theorem chn_congr {σ σ' : St} (q : Nat) : ∀ n : Nat, (∀ r, r < n → s_pr σ' r = s_pr σ r ∧ s_ev σ' r = s_ev σ r) → chn σ' q n = chn σ q n
  | 0, _ => rfl
  | n + 1, h => by
    have ih := chn_congr (σ := σ) (σ' := σ') q n (fun r hr => h r (by omega))
    simp only [chn]
    rw [(h n (Nat.lt_succ_self n)).1, ih, ins_congr (h n (Nat.lt_succ_self n)).2 (fun y hy => (h y (by have := (mem_chn.mp hy).1; omega)).2)]
theorem chn_arrive {σ : St} {q v w p : Nat} : chn (g_arrive σ q v w) p (s_n σ) = chn σ p (s_n σ) :=
  chn_congr p (s_n σ) (fun r hr => by rw [ga_pr, ga_ev, uN_n (by omega), uN_n (by omega)]; exact ⟨rfl, rfl⟩)
theorem xI_arrive {σ : St} {hd ol hd' ol' : Nat → Nat} {q v w : Nat} (hq : q < 60) (hX : xI σ hd ol) (h : putP (s_ev (g_arrive σ q v w)) hd (uN ol (s_n σ) 0) q (s_n σ) (chn σ q (s_n σ)) hd' ol') : xI (g_arrive σ q v w) hd' ol' := by
  have hfresh : ∀ p, s_n σ ∉ chn σ p (s_n σ) := fun p hp => absurd (mem_chn.mp hp).1 (Nat.lt_irrefl _)
  have hold : ∀ p, p < 60 → seg (uN ol (s_n σ) 0) (hd p) (chn σ p (s_n σ)) := fun p hp => seg_congr (fun y hy => uN_n (fun e => hfresh p (by subst e; exact hy))) (hX p hp)
  intro p hp
  rw [ga_n]
  simp only [chn]
  rw [chn_arrive, ga_pr, uN_s]
  by_cases e : q = p
  · subst e
    rw [if_pos rfl]
    exact putP_seg h (hold q hp) (hfresh q) (srt_nodup (srt_chn σ q _))
  · rw [if_neg e]
    exact putP_other h (fun z => e z.symm) (hold p hp) (hfresh p) (fun y hy hy2 => e ((mem_chn.mp hy).2.symm.trans (mem_chn.mp hy2).2))
theorem putP_le {ev hd ol hd' ol' : Nat → Nat} {q c N : Nat} {l : List Nat} (h : putP ev hd ol q c l hd' ol') (h1 : ∀ j, hd j ≤ N) (h2 : ∀ i, ol i ≤ N) (hc : c + 1 ≤ N) : (∀ j, hd' j ≤ N) ∧ ∀ i, ol' i ≤ N := by
  have hu : ∀ (f : Nat → Nat) (i x : Nat), (∀ j, f j ≤ N) → x ≤ N → ∀ j, uN f i x j ≤ N := fun f i x hf hx j => by
    by_cases e : j = i
    · subst e; rw [uN_s]; exact hx
    · rw [uN_n e]; exact hf j
  obtain ⟨pre, suf, -, -, -, h3⟩ := h
  rcases h3 with ⟨-, rfl, rfl⟩ | ⟨pre2, x, -, rfl, rfl⟩
  · exact ⟨hu _ _ _ h1 hc, hu _ _ _ h2 (h1 q)⟩
  · exact ⟨h1, hu _ _ _ (hu _ _ _ h2 (h2 x)) hc⟩
theorem xJ_arrive {σ : St} {hd ol hd' ol' : Nat → Nat} {q v w : Nat} {l : List Nat} {ev : Nat → Nat} (hJ : xJ σ hd ol) (h : putP ev hd (uN ol (s_n σ) 0) q (s_n σ) l hd' ol') : xJ (g_arrive σ q v w) hd' ol' := by
  obtain ⟨h1, h2, h3⟩ := hJ
  obtain ⟨g1, g2⟩ := putP_le (N := s_n σ + 1) h (fun j => Nat.le_succ_of_le (h1 j)) (fun i => by
    by_cases e : i = s_n σ
    · subst e; rw [uN_s]; exact Nat.zero_le _
    · rw [uN_n e]; exact Nat.le_succ_of_le (h2 i)) (Nat.le_refl _)
  exact ⟨g1, g2, fun j => Nat.le_succ_of_le (h3 j)⟩
theorem rfN_new {ra : Nat → Nat} {n q o : Nat} (h : o ≤ n) : rfN (uN ra n q) o = rfN ra o := by
  cases o with
  | zero => rfl
  | succ o => show some (uN ra n q o) = some (ra o); rw [uN_n (by omega)]
/-- the world with the new row in its pool, not yet listed -/
theorem xNew {cI cR cS : ClassId} {x0 q5 : Nat} {b ra sb hd ol : Nat → Nat} {σ : St} {f e v w : Nat} (hf : f < 6) (he : e < 10) (hJ : xJ σ hd ol) :
    List.Perm (α := Nat × va_E) (xW cI cR cS x0 b ra sb hd ol σ ++ [(q5, .inr (0, [.int (nI (s_n σ)), .int (nI f), .int (nI e), .int (nI v), .int (nI (s_now σ)), .int (nI w), .null]))])
    ((x0, .inr (2, [.int (nI (s_now σ)), .ref (b 0), .ref (b 1), .int (nI (s_n σ)), .ref (b 2), .ref (b 3), .int (nI (s_tk σ)), .ref (b 4), .int (nI (s_k σ))])) ::
    (b 0, .inl (cI, 6, .inl (fun j => nI (s_lt σ j)))) :: (b 1, .inl (cR, 200, .inr (.inr (.inr (.inr (fun j => if j < s_n σ then some (uN ra (s_n σ) q5 j) else none)))))) ::
    (b 2, .inl (cR, 60, .inr (.inr (.inr (.inr (fun j => rfN (uN ra (s_n σ) q5) (hd j))))))) :: (b 3, .inl (cR, 60, .inr (.inr (.inr (.inr (fun j => rfN (uN ra (s_n σ) q5) (s_cp σ j))))))) ::
    (b 4, .inl (cS, 200, .inr (.inr (.inr (.inr (fun j => if j < s_k σ then some (sb j) else none)))))) ::
    poolE (uN ra (s_n σ) q5) sb (uN ol (s_n σ) 0) (g_arrive σ (10 * f + e) v w) (s_n σ + 1) (s_k σ)) := by
  obtain ⟨h1, h2, h3⟩ := hJ
  have e1 : (fun j => if j < s_n σ then some (uN ra (s_n σ) q5 j) else none) = fun j => if j < s_n σ then some (ra j) else none := by
    funext j
    by_cases h : j < s_n σ
    · rw [if_pos h, if_pos h, uN_n (by omega)]
    · rw [if_neg h, if_neg h]
  have e2 : (fun j => rfN (uN ra (s_n σ) q5) (hd j)) = fun j => rfN ra (hd j) := by funext j; exact rfN_new (h1 j)
  have e3 : (fun j => rfN (uN ra (s_n σ) q5) (s_cp σ j)) = fun j => rfN ra (s_cp σ j) := by funext j; exact rfN_new (h3 j)
  rw [e1, e2, e3]
  refine List.Perm.cons _ (List.Perm.cons _ (List.Perm.cons _ (List.Perm.cons _ (List.Perm.cons _ (List.Perm.cons _ ?_)))))
  have e4 : (List.range (s_n σ + 1)).map (rowE (uN ra (s_n σ) q5) (uN ol (s_n σ) 0) (g_arrive σ (10 * f + e) v w)) = (List.range (s_n σ)).map (rowE ra ol σ) ++ [(q5, .inr (0, [.int (nI (s_n σ)), .int (nI f), .int (nI e), .int (nI v), .int (nI (s_now σ)), .int (nI w), .null]))] := by
    rw [List.range_succ, List.map_append]
    congr 1
    · refine List.map_congr_left (fun i hi => ?_)
      have hi : i < s_n σ := List.mem_range.mp hi
      unfold rowE
      rw [ga_pr, ga_ev, ga_ar, ga_vl, uN_n (by omega), uN_n (by omega), uN_n (by omega), uN_n (by omega), uN_n (by omega), uN_n (by omega), rfN_new (h2 i)]
    · show [rowE _ _ _ _] = _
      unfold rowE
      rw [ga_pr, ga_ev, ga_ar, ga_vl, uN_s, uN_s, uN_s, uN_s, uN_s, uN_s, show (10 * f + e) / 10 = f from by omega, show (10 * f + e) % 10 = e from by omega]
      rfl
  have e5 : (List.range (s_k σ)).map (srvE sb (g_arrive σ (10 * f + e) v w)) = (List.range (s_k σ)).map (srvE sb σ) := rfl
  unfold poolE
  rw [e4, e5, List.append_eq, List.append_assoc, List.append_assoc]
  exact List.Perm.append_left _ List.perm_append_comm
-- a serving
theorem gs_k (σ : St) (q : Nat) : s_k (g_serve σ q) = s_k σ + 1 := rfl
theorem gs_sp (σ : St) (q : Nat) : s_sp (g_serve σ q) = uN (s_sp σ) (s_k σ) q := rfl
theorem gs_sa (σ : St) (q : Nat) : s_sa (g_serve σ q) = uN (s_sa σ) (s_k σ) (s_now σ) := rfl
theorem gs_sv (σ : St) (q : Nat) : s_sv (g_serve σ q) = uN (s_sv σ) (s_k σ) (q_fr σ (s_cp σ q) (s_now σ)) := rfl
theorem xNewS {cI cR cS : ClassId} {x0 q5 : Nat} {b ra sb hd ol : Nat → Nat} {σ : St} {f e : Nat} (hf : f < 6) (he : e < 10) :
    List.Perm (α := Nat × va_E) (xW cI cR cS x0 b ra sb hd ol σ ++ [(q5, .inr (1, [.int (nI f), .int (nI e), .int (nI (s_now σ)), .int (eN (q_fr σ (s_cp σ (10 * f + e)) (s_now σ)))]))])
    ((x0, .inr (2, [.int (nI (s_now σ)), .ref (b 0), .ref (b 1), .int (nI (s_n σ)), .ref (b 2), .ref (b 3), .int (nI (s_tk σ)), .ref (b 4), .int (nI (s_k σ))])) ::
    (b 0, .inl (cI, 6, .inl (fun j => nI (s_lt σ j)))) :: (b 1, .inl (cR, 200, .inr (.inr (.inr (.inr (fun j => if j < s_n σ then some (ra j) else none)))))) ::
    (b 2, .inl (cR, 60, .inr (.inr (.inr (.inr (fun j => rfN ra (hd j))))))) :: (b 3, .inl (cR, 60, .inr (.inr (.inr (.inr (fun j => rfN ra (s_cp σ j))))))) ::
    (b 4, .inl (cS, 200, .inr (.inr (.inr (.inr (fun j => if j < s_k σ then some (uN sb (s_k σ) q5 j) else none)))))) ::
    poolE ra (uN sb (s_k σ) q5) ol (g_serve σ (10 * f + e)) (s_n σ) (s_k σ + 1)) := by
  have e1 : (fun j => if j < s_k σ then some (uN sb (s_k σ) q5 j) else none) = fun j => if j < s_k σ then some (sb j) else none := by
    funext j
    by_cases h : j < s_k σ
    · rw [if_pos h, if_pos h, uN_n (by omega)]
    · rw [if_neg h, if_neg h]
  rw [e1]
  refine List.Perm.cons _ (List.Perm.cons _ (List.Perm.cons _ (List.Perm.cons _ (List.Perm.cons _ (List.Perm.cons _ ?_)))))
  have e4 : (List.range (s_k σ + 1)).map (srvE (uN sb (s_k σ) q5) (g_serve σ (10 * f + e))) = (List.range (s_k σ)).map (srvE sb σ) ++ [(q5, .inr (1, [.int (nI f), .int (nI e), .int (nI (s_now σ)), .int (eN (q_fr σ (s_cp σ (10 * f + e)) (s_now σ)))]))] := by
    rw [List.range_succ, List.map_append]
    congr 1
    · refine List.map_congr_left (fun i hi => ?_)
      have hi : i < s_k σ := List.mem_range.mp hi
      unfold srvE
      rw [gs_sp, gs_sa, gs_sv, uN_n (by omega), uN_n (by omega), uN_n (by omega), uN_n (by omega)]
    · show [srvE _ _ _] = _
      unfold srvE
      rw [gs_sp, gs_sa, gs_sv, uN_s, uN_s, uN_s, uN_s, show (10 * f + e) / 10 = f from by omega, show (10 * f + e) % 10 = e from by omega]
  have e5 : (List.range (s_n σ)).map (rowE ra ol (g_serve σ (10 * f + e))) = (List.range (s_n σ)).map (rowE ra ol σ) := rfl
  unfold poolE
  rw [e4, e5, ← List.append_assoc]
  exact List.Perm.refl _
theorem pool_srv {ra sb ol : Nat → Nat} {σ : St} {n k i : Nat} (hi : i < k) : (poolE ra sb ol σ n k)[n + i]? = some (srvE sb σ i) := by
  rw [List.getElem?_append_right (by simp)]
  simp [hi]
theorem sI_serve {σ : St} (hI : sI σ) {q : Nat} (hk : s_k σ < 200) (hq : q < 60) : sI (g_serve σ q) := by
  obtain ⟨i_now, i_n, i_tk, i_k, i_lt, i_row, i_cp, i_srv⟩ := hI
  refine ⟨i_now, i_n, i_tk, hk, i_lt, i_row, i_cp, ?_⟩
  intro i hi
  rw [gs_k] at hi
  rw [gs_sp, gs_sa, gs_sv]
  by_cases e : i = s_k σ
  · subst e
    rw [uN_s, uN_s, uN_s]
    refine ⟨hq, Nat.le_refl _, q_fr_le ?_⟩
    have := (i_cp q hq).1
    show s_cp σ q ≤ s_n σ
    omega
  · rw [uN_n e, uN_n e, uN_n e]
    exact i_srv i (by omega)
theorem sI_pass {σ : St} (hI : sI σ) {t : Nat} (ht : s_now σ + t ≤ 10000) : sI (g_pass σ t) := by
  obtain ⟨i_now, i_n, i_tk, i_k, i_lt, i_row, i_cp, i_srv⟩ := hI
  have e : s_now (g_pass σ t) = s_now σ + t := rfl
  refine ⟨ht, i_n, i_tk, i_k, i_lt, fun r hr => ?_, i_cp, fun i hi => ?_⟩
  · obtain ⟨h1, h2, h3, h4⟩ := i_row r hr
    exact ⟨h1, h2, Nat.le_trans h3 (Nat.le_add_right _ _), h4⟩
  · obtain ⟨h1, h2, h3⟩ := i_srv i hi
    exact ⟨h1, Nat.le_trans h2 (Nat.le_add_right _ _), h3⟩
theorem sI_setL {σ : St} (hI : sI σ) {f t : Nat} (ht : t ≤ 10000) : sI (g_setL σ f t) := by
  obtain ⟨i_now, i_n, i_tk, i_k, i_lt, i_row, i_cp, i_srv⟩ := hI
  refine ⟨i_now, i_n, i_tk, i_k, fun g hg => ?_, i_row, i_cp, i_srv⟩
  show uN (s_lt σ) f t g ≤ 10000
  by_cases e : g = f
  · subst e; rw [uN_s]; exact ht
  · rw [uN_n e]; exact i_lt g hg
