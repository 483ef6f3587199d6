/-! worlds cut and joined; the class's world as it is written -/
theorem vD_iff {A : Nat → Prop} {ws : va_W} : va_D A ws ↔ (ws.map Prod.fst).Nodup ∧ ∀ p ∈ ws, A p.1 := by
  constructor
  · rintro ⟨h1, h2⟩
    refine ⟨?_, fun p hp => ?_⟩
    · rw [List.nodup_iff_pairwise_ne, List.pairwise_iff_getElem]
      intro i j hi hj hij e
      rw [List.getElem_map, List.getElem_map] at e
      have hi' : i < ws.length := by simpa using hi
      have hj' : j < ws.length := by simpa using hj
      have := h1 i j _ _ (List.getElem?_eq_getElem hi') (List.getElem?_eq_getElem hj') e
      omega
    · obtain ⟨k, hk⟩ := List.getElem?_of_mem hp
      exact h2 k p hk
  · rintro ⟨h1, h2⟩
    refine ⟨fun i j p q hp hq e => ?_, fun k q hk => h2 q (List.mem_of_getElem? hk)⟩
    obtain ⟨hi, hp'⟩ := List.getElem?_eq_some_iff.mp hp
    obtain ⟨hj, hq'⟩ := List.getElem?_eq_some_iff.mp hq
    have key := (List.nodup_iff_pairwise_ne.mp h1)
    rw [List.pairwise_iff_getElem] at key
    rcases Nat.lt_trichotomy i j with h | h | h
    · exact absurd (by rw [List.getElem_map, List.getElem_map, hp', hq']; exact e) (key i j (by simpa using hi) (by simpa using hj) h)
    · exact h
    · exact absurd (by rw [List.getElem_map, List.getElem_map, hp', hq']; exact e.symm) (key j i (by simpa using hj) (by simpa using hi) h)
theorem vP_iff {D : va_G} {cl : List vw_C} {ws : va_W} {H : Heap} : va_P D cl ws H ↔ ∀ p ∈ ws, va_at D cl p H := by
  constructor
  · intro h p hp
    obtain ⟨k, hk⟩ := List.getElem?_of_mem hp
    exact h k p hk
  · intro h k q hk
    exact h q (List.mem_of_getElem? hk)
theorem vP_perm {D : va_G} {cl : List vw_C} {ws ws' : va_W} {H : Heap} (p : ws.Perm ws') (h : va_P D cl ws H) : va_P D cl ws' H := by
  rw [vP_iff] at h ⊢
  exact fun x hx => h x (p.mem_iff.mpr hx)
theorem vD_perm {A : Nat → Prop} {ws ws' : va_W} (p : ws.Perm ws') (h : va_D A ws) : va_D A ws' := by
  rw [vD_iff] at h ⊢
  exact ⟨((p.map Prod.fst).nodup_iff).mp h.1, fun x hx => h.2 x (p.mem_iff.mpr hx)⟩
theorem vA_iff {ws : va_W} {sz q : Nat} : va_A ws sz q ↔ q ∈ ws.map Prod.fst ∨ sz ≤ q := by
  unfold va_A
  constructor
  · rintro (⟨k, e, h⟩ | h)
    · exact Or.inl (List.mem_map.mpr ⟨(q, e), List.mem_of_getElem? h, rfl⟩)
    · exact Or.inr h
  · rintro (h | h)
    · obtain ⟨p, hp, rfl⟩ := List.mem_map.mp h
      obtain ⟨k, hk⟩ := List.getElem?_of_mem hp
      exact Or.inl ⟨k, p.2, hk⟩
    · exact Or.inr h
/-- what a call on the part w1 may touch is ours -/
theorem fr_free {A : Nat → Prop} {w1 w2 : va_W} {sz : Nat} (hD : va_D A (w1 ++ w2)) (hA : ∀ q, sz ≤ q → A q) : ∀ q, va_A w1 sz q → A q := by
  intro q h
  rw [vA_iff] at h
  rcases h with h | h
  · obtain ⟨p, hp, rfl⟩ := List.mem_map.mp h
    exact (vD_iff.mp hD).2 p (List.mem_append_left _ hp)
  · exact hA q h
/-- the frame rule: behind a call on the part w1 the rest is as it was -/
theorem fr_join {D : va_G} {cl : List vw_C} {A : Nat → Prop} {w1 w1' w2 : va_W} {H H1 : Heap} (hP : va_P D cl (w1 ++ w2) H) (hD : va_D A (w1 ++ w2)) (hA : ∀ q, H.size ≤ q → A q) (hk : ∀ q : Nat, q < H.size → ¬ va_A w1 H.size q → H1[q]? = H[q]?)
    (hP1 : va_P D cl w1' H1) (hD1 : va_D (va_A w1 H.size) w1') : va_P D cl (w1' ++ w2) H1 ∧ va_D A (w1' ++ w2) := by
  have hf := fr_free hD hA
  rw [vD_iff] at hD hD1
  rw [vP_iff] at hP hP1
  have hapart : ∀ p ∈ w2, p.1 < H.size ∧ ¬ va_A w1 H.size p.1 := by
    intro p hp
    have hlt := (hP p (List.mem_append_right _ hp)).lt
    refine ⟨hlt, fun h => ?_⟩
    rw [vA_iff] at h
    rcases h with h | h
    · have h2 := hD.1
      rw [List.map_append, List.nodup_append] at h2
      exact h2.2.2 _ h _ (List.mem_map.mpr ⟨p, hp, rfl⟩) rfl
    · omega
  refine ⟨vP_iff.mpr (fun p hp => ?_), vD_iff.mpr ⟨?_, fun p hp => ?_⟩⟩
  · rcases List.mem_append.mp hp with h | h
    · exact hP1 p h
    · obtain ⟨g1, g2⟩ := hapart p h
      exact (hP p (List.mem_append_right _ h)).kept (hk p.1 g1 g2)
  · have h2 := hD.1
    rw [List.map_append, List.nodup_append] at h2 ⊢
    refine ⟨hD1.1, h2.2.1, fun x hx y hy e => ?_⟩
    obtain ⟨px, hpx, rfl⟩ := List.mem_map.mp hx
    obtain ⟨py, hpy, rfl⟩ := List.mem_map.mp hy
    exact (hapart py hpy).2 (by rw [← e]; exact hD1.2 px hpx)
  · rcases List.mem_append.mp hp with h | h
    · exact hf _ (hD1.2 p h)
    · exact hD.2 p (List.mem_append_right _ h)
theorem fr_joinR {D : va_G} {cl : List vw_C} {A : Nat → Prop} {w1 w1' w2 : va_W} {H H1 : Heap} (hP : va_P D cl (w2 ++ w1) H) (hD : va_D A (w2 ++ w1)) (hA : ∀ q, H.size ≤ q → A q) (hk : ∀ q : Nat, q < H.size → ¬ va_A w1 H.size q → H1[q]? = H[q]?)
    (hP1 : va_P D cl w1' H1) (hD1 : va_D (va_A w1 H.size) w1') : va_P D cl (w2 ++ w1') H1 ∧ va_D A (w2 ++ w1') := by
  obtain ⟨h1, h2⟩ := fr_join (vP_perm List.perm_append_comm hP) (vD_perm List.perm_append_comm hD) hA hk hP1 hD1
  exact ⟨vP_perm List.perm_append_comm h1, vD_perm List.perm_append_comm h2⟩
theorem fr_freeR {A : Nat → Prop} {w1 w2 : va_W} {sz : Nat} (hD : va_D A (w2 ++ w1)) (hA : ∀ q, sz ≤ q → A q) : ∀ q, va_A w1 sz q → A q := fr_free (vD_perm List.perm_append_comm hD) hA
theorem vP_app1 {D : va_G} {cl : List vw_C} {w1 w2 : va_W} {H : Heap} (h : va_P D cl (w1 ++ w2) H) : va_P D cl w1 H := by
  rw [vP_iff] at h ⊢
  exact fun p hp => h p (List.mem_append_left _ hp)
theorem vP_app2 {D : va_G} {cl : List vw_C} {w1 w2 : va_W} {H : Heap} (h : va_P D cl (w1 ++ w2) H) : va_P D cl w2 H := by
  rw [vP_iff] at h ⊢
  exact fun p hp => h p (List.mem_append_right _ hp)
theorem vD_app1 {A : Nat → Prop} {w1 w2 : va_W} (h : va_D A (w1 ++ w2)) : va_D A w1 := by
  rw [vD_iff] at h ⊢
  rw [List.map_append, List.nodup_append] at h
  exact ⟨h.1.1, fun p hp => h.2 p (List.mem_append_left _ hp)⟩
theorem vD_app2 {A : Nat → Prop} {w1 w2 : va_W} (h : va_D A (w1 ++ w2)) : va_D A w2 := by
  rw [vD_iff] at h ⊢
  rw [List.map_append, List.nodup_append] at h
  exact ⟨h.1.2.1, fun p hp => h.2 p (List.mem_append_right _ hp)⟩
theorem vD_mono {A B : Nat → Prop} {ws : va_W} (h : va_D A ws) (hAB : ∀ q, A q → B q) : va_D B ws := ⟨h.1, fun k q hk => hAB _ (h.2 k q hk)⟩
-- the class's world
abbrev poolE (ra sb ol : Nat → Nat) (σ : St) (n k : Nat) : va_W := (List.range n).map (rowE ra ol σ) ++ (List.range k).map (srvE sb σ)
/-- what else the links keep to: rows that there are -/
def xJ (σ : St) (hd ol : Nat → Nat) : Prop := (∀ j, hd j ≤ s_n σ) ∧ (∀ i, ol i ≤ s_n σ) ∧ ∀ j, s_cp σ j ≤ s_n σ
theorem xW_fst {cI cR cS : ClassId} {x0 : Nat} {b ra sb hd ol : Nat → Nat} {σ : St} : (xW cI cR cS x0 b ra sb hd ol σ).map Prod.fst = x0 :: b 0 :: b 1 :: b 2 :: b 3 :: b 4 :: ((List.range (s_n σ)).map ra ++ (List.range (s_k σ)).map sb) := by
  simp [List.map_append, Function.comp_def]
theorem xD_to {A : Nat → Prop} {cI cR cS : ClassId} {x0 : Nat} {b ra sb hd ol hd' ol' : Nat → Nat} {σ σ' : St} (hD : va_D A (xW cI cR cS x0 b ra sb hd ol σ)) (hn : s_n σ' = s_n σ) (hk : s_k σ' = s_k σ) : va_D A (xW cI cR cS x0 b ra sb hd' ol' σ') :=
  va_D_fst hD (by rw [xW_fst, xW_fst, hn, hk])
theorem pool_row {ra sb ol : Nat → Nat} {σ : St} {n k i : Nat} (hi : i < n) : (poolE ra sb ol σ n k)[i]? = some (rowE ra ol σ i) := by
  rw [List.getElem?_append_left (by simpa using hi)]
  simp [hi]
/-- a row's link is written -/
theorem pool_set {ra sb ol : Nat → Nat} {σ : St} {n k r v : Nat} (hr : r < n) : (poolE ra sb ol σ n k).set r (ra r, .inr (0, [.int (nI r), .int (nI (s_pr σ r / 10)), .int (nI (s_pr σ r % 10)), .int (nI (s_ev σ r)), .int (nI (s_ar σ r)), .int (nI (s_vl σ r)), va_rf (rfN ra v)])) = poolE ra sb (uN ol r v) σ n k := by
  apply List.ext_getElem?
  intro i
  by_cases h : i = r
  · subst h
    rw [List.getElem?_set_self (by simp; omega), pool_row hr]
    show _ = some (ra i, _)
    rw [uN_s]
  · rw [List.getElem?_set_ne (fun e => h e.symm)]
    unfold poolE
    by_cases h2 : i < n
    · rw [List.getElem?_append_left (by simpa using h2), List.getElem?_append_left (by simpa using h2)]
      simp [h2, uN_n h]
    · rw [List.getElem?_append_right (by simpa using h2), List.getElem?_append_right (by simpa using h2)]
      simp
theorem upP {ra : Nat → Nat} {n : Nat} : va_up (fun j => if j < n then some (ra j) else none) n (some (ra n)) = fun j => if j < n + 1 then some (ra j) else none := by
  funext j
  unfold va_up
  by_cases h : j = n
  · subst h; simp
  · rw [if_neg h]
    show (if j < n then some (ra j) else none) = _
    by_cases h2 : j < n
    · rw [if_pos h2, if_pos (by omega)]
    · rw [if_neg h2, if_neg (by omega)]
theorem upQ {ra g : Nat → Nat} {i r : Nat} : va_up (fun j => rfN ra (g j)) i (some (ra r)) = fun j => rfN ra (uN g i (r + 1) j) := by
  funext j
  unfold va_up
  by_cases h : j = i
  · subst h; rw [if_pos rfl, uN_s]; rfl
  · rw [if_neg h, uN_n h]
theorem nar_rf {C : String} {o : Option Nat} : narrow (.object C) (va_rf o) = va_rf o := by cases o <;> rfl
theorem fit_rf {C : String} {o : Option Nat} : fits (.object C) (va_rf o) = true := by cases o <;> rfl
section NVX
variable {p : Program} {l : Launch} {e : Env} {R : Room} {s : State} {m : MethodId} {args : Array Value} {below : List Frame} {meth : Method} {c : Code} {H : Heap} {locs : List Loc} {cells slots : Nat} {Q : State → Prop}
variable {cc : ByteArray} {pc : Nat} {ls : Array Slot} {rest st0 : List Value} {a : Array Value} {mc ms : Nat} {D : va_G} {cl : List vw_C} {tys : List (ClassId × FieldType)} {ws : va_W} {A : Nat → Prop} {H0 : Heap}
theorem nq_aast (f g : Nat → Option Nat) {q0 t0 qk ci q : Nat} {cA : ClassId} {r : vw_C} {n v i : Nat} {vs : List Value} (hx : p.tables.exec = Jvm.exec) (hb : c.code = cc) (hK : va_K D cl tys s) (hP : va_P D cl ws H) (hD : va_D A ws) (hS : va_S A H0 H locs) (ha : ws[q0]? = some (q, .inl (cA, n, .inr (.inr (.inr (.inr f)))))) (ht : tys[t0]? = some (cA, .object r.1)) (hv : ws[qk]? = some (v, .inr (ci, vs))) (hc : cl[ci]? = some r) (hin : i < n) (hn : n < 2 ^ 31) (hg : va_up f i (some v) = g) (hdg : decode cc pc = .ok (.aastore, 1))
    (kk : ∀ (H1 : Heap) (locs1 : List Loc), va_P D cl (ws.set q0 (q, .inl (cA, n, .inr (.inr (.inr (.inr g)))))) H1 → va_D A (ws.set q0 (q, .inl (cA, n, .inr (.inr (.inr (.inr g)))))) → va_S A H0 H1 locs1 → W p l e R s m args below meth c H1 locs1 cells slots Q (F0 m (pc + 1) ls rest)) : W p l e R s m args below meth c H locs cells slots Q (F0 m pc ls (.ref v :: .int (nI i) :: .ref q :: rest)) :=
  va_astq hx hb hK hP hD hS q0 t0 qk ci ha ht hv hc (vp_in_nI hin hn) hdg (by rw [nI_clamp (Nat.lt_trans hin hn), hg]; exact kk)
end NVX
