/-! the reference: the methods that write, second half (laid by wip/whole/gen/x3wr2.py) -/
set_option maxHeartbeats 4000000 in
set_option maxRecDepth 100000 in
theorem c_X3_value (l : Launch) (dD : va_G) (cI cR cS : ClassId) (lo : Nat) (sz : Nat) (hlo : lo ≤ sz) (m0 : Nat) (a : Nat → Nat) (th : Nat) (σ : St) (hI : sI σ) (x : Int32) : Met l yX3_value wsX3_value ({ frames := 2, cells := 0, slots := 0, locals := 43 }) (ePc dD cI cR cS lo [.ref m0, .int x] (fun H => H.size = sz ∧ va_P dD vwCl (mW cI m0 a th σ) H ∧ va_D (fun q => lo ≤ q) (mW cI m0 a th σ))) (va_Qi (fun (r : Int32) (u : Nat × St) => R3 (ri x (s_n σ)) True σ σ (nI (s_vl σ (cl x))) r u) (fun u t => va_P dD vwCl (mW cI m0 a u.1 u.2) t.heap) (va_A (mW cI m0 a th σ) sz)) 0 0 (va_A (mW cI m0 a th σ) sz) := by
  refine Met.ofW (cc := cX3_value) (maxL := 2) (ret := (some .int)) (by decide) rfl ?_
  intro p e_ s m args below meth c s₁ B hml hv
  obtain ⟨rfl, hE, hsz, hP, hD0⟩ := hv
  have hx := B.exec
  have hb := B.bytes
  have hr := B.returns
  have hts := atoms_spec (ws := wsX3_value) B.pre
  have hown : s.vm.findClass RX3 = some m.cls := findClass_of_methodNamed B.named
  have hlocks := B.notSynchronized
  have hK := hE.1.1
  have hinX3 : ∀ w ∈ u_ws RX3 TX3 14, w ∈ wsX3_value := by decide +kernel
  subst hsz
  have hD := hD0.self (sz := s.heap.size)
  have hAlo : ∀ q, va_A (mW cI m0 a th σ) s.heap.size q → lo ≤ q := eA_lo hD0 hlo
  generalize hAe : va_A (mW cI m0 a th σ) s.heap.size = A at hD hAlo ⊢
  have hA : ∀ q : Nat, s.heap.size ≤ q → A q := fun q h => by rw [← hAe]; exact Or.inr h
  have hS : va_S A s.heap s.heap [] := va_S.rf
  have hP : va_P dD vwCl (mW cI m0 a th σ) s.heap := hP
  obtain ⟨i_now, i_n, i_tk, i_k, i_lt, i_row, i_cp, i_srv⟩ := id hI
  have hl := lv_entry ([.ref m0, .int x]) (n := 2) (Nat.le_of_ble_eq_true rfl)
  rw [lg_entry_eq]
  generalize (lg_sl ([.ref m0, .int x]) ++ List.replicate (2 - (lg_sl ([.ref m0, .int x])).length) Slot.unset).toArray = ls at hl ⊢
  have hl : lv_has ls 2 [(0, .ref m0), (1, .int x)] := hl
  refine lv_aload_n hx hb dX3_value_0 rfl (lv_at hl 0 rfl) ?_
  refine lv_iload_n hx hb dX3_value_1 rfl (lv_at hl 1 rfl) ?_
  have hFc := va_free (wc := (mW cI m0 a th σ)) hD hS hA [0, 1, 2, 3, 4, 5, 6, 7, 8, 9] rfl
  refine va_calli (va_runV (As := [.int x]) (rest := []) ⟨hx, hb, hml, hown, hts⟩ (c_X3_asksRow l dD cI cR cS lo s.heap.size (Nat.le_trans hlo hS.1) m0 a th σ hI x) (cwV 1 hts gX3_value_X3_asksRow rfl rfl rfl (by decide +kernel) ⟨Nat.le_of_ble_eq_true rfl, Nat.le_of_ble_eq_true rfl⟩) (ePreV hE (hS.mono hAlo) hP (k := 0) rfl rfl ⟨rfl, hP, va_D_fst hD0 rfl⟩) rfl rfl hl.1 rfl (lv_room (Nat.le_of_ble_eq_true rfl)) dX3_value_2 ⟨Nat.le_of_ble_eq_true rfl, Nat.le_of_ble_eq_true rfl⟩) hS (fun q _ h => hFc q h) hFc (fun r_2 u_ t_ H1 locs ht_ hvm_ hw_2 hB_ hz_ hk_ hS => ?_)
  obtain ⟨th_, σ_⟩ := u_
  rcases hw_2 with ⟨hc_, e_1, rfl⟩ | ⟨hc_, e_1, rfl⟩
  · cases e_1
    have hP : va_P dD vwCl (mW cI m0 a 0 σ) H1 := by rw [← ht_]; exact hB_
    have hD : va_D A (mW cI m0 a 0 σ) := va_D_fst hD rfl
    obtain ⟨i, hi_, rfl⟩ := ri_of (n := s_n σ) (by omega) hc_
    refine nv_if_eq (tgt := 17) hx hb dX3_value_5 (by decide) (by decide) (fun c_5 => absurd c_5 (by decide)) (fun c_5 => ?_)
    refine lv_aload_n hx hb dX3_value_8 rfl (lv_at hl 0 rfl) ?_
    refine va_get (D := dD) (ci := 3) (v := .ref (a 4)) (C := RX3) (T := TX3) (N := 14) hx hb hts hinX3 hown hK hP 0 rfl rfl 7 (by decide) (hts (.fieldLink RX3 22 "FeatureStoreModel" "value" "[I") (by decide +kernel)) (fun _ h9 => h9) rfl dX3_value_9 ?_
    refine lv_iload_n hx hb dX3_value_12 rfl (lv_at hl 1 rfl) ?_
    refine nv_iald (q0 := 5) (t0 := 0) (s_vl σ) hx hb hK hP rfl rfl (by omega) (by decide) dX3_value_13 ?_
    refine lv_goto (tgt := 18) hx hb dX3_value_14 (by decide) ?_
    exact W.iret (v := nI (s_vl σ i)) hx hb hr (fun u9 hu9 hW => ⟨⟨nI (s_vl σ i), (0, σ), rfl, Or.inl ⟨hc_, trivial, rfl, by rw [cl_nI (by omega)]⟩, by have h9 := hP; rw [← hu9] at h9; exact h9⟩, hS.F hu9⟩) hS.2.2 dX3_value_18
  · cases e_1
    have hP : va_P dD vwCl (mW cI m0 a 1 σ) H1 := by rw [← ht_]; exact hB_
    have hD : va_D A (mW cI m0 a 1 σ) := va_D_fst hD rfl
    refine nv_if_eq (tgt := 17) hx hb dX3_value_5 (by decide) (by decide) (fun c_5 => ?_) (fun c_5 => absurd c_5 (by decide))
    refine lv_iconst (v := nI 0) hx hb dX3_value_17 (by decide +kernel) ?_
    exact W.iret (v := nI 0) hx hb hr (fun u9 hu9 hW => ⟨⟨nI 0, (1, σ), rfl, Or.inr (Or.inl ⟨hc_, rfl⟩), by have h9 := hP; rw [← hu9] at h9; exact h9⟩, hS.F hu9⟩) hS.2.2 dX3_value_18

set_option maxHeartbeats 4000000 in
set_option maxRecDepth 100000 in
theorem c_X3_late (l : Launch) (dD : va_G) (cI cR cS : ClassId) (lo : Nat) (sz : Nat) (hlo : lo ≤ sz) (m0 : Nat) (a : Nat → Nat) (th : Nat) (σ : St) (hI : sI σ) (x : Int32) : Met l yX3_late wsX3_late ({ frames := 2, cells := 0, slots := 0, locals := 43 }) (ePc dD cI cR cS lo [.ref m0, .int x] (fun H => H.size = sz ∧ va_P dD vwCl (mW cI m0 a th σ) H ∧ va_D (fun q => lo ≤ q) (mW cI m0 a th σ))) (va_Qi (fun (r : Int32) (u : Nat × St) => R3 (ri x (s_n σ)) True σ σ (nI (s_ar σ (cl x) - s_ev σ (cl x))) r u) (fun u t => va_P dD vwCl (mW cI m0 a u.1 u.2) t.heap) (va_A (mW cI m0 a th σ) sz)) 0 0 (va_A (mW cI m0 a th σ) sz) := by
  refine Met.ofW (cc := cX3_late) (maxL := 2) (ret := (some .int)) (by decide) rfl ?_
  intro p e_ s m args below meth c s₁ B hml hv
  obtain ⟨rfl, hE, hsz, hP, hD0⟩ := hv
  have hx := B.exec
  have hb := B.bytes
  have hr := B.returns
  have hts := atoms_spec (ws := wsX3_late) B.pre
  have hown : s.vm.findClass RX3 = some m.cls := findClass_of_methodNamed B.named
  have hlocks := B.notSynchronized
  have hK := hE.1.1
  have hinX3 : ∀ w ∈ u_ws RX3 TX3 14, w ∈ wsX3_late := by decide +kernel
  subst hsz
  have hD := hD0.self (sz := s.heap.size)
  have hAlo : ∀ q, va_A (mW cI m0 a th σ) s.heap.size q → lo ≤ q := eA_lo hD0 hlo
  generalize hAe : va_A (mW cI m0 a th σ) s.heap.size = A at hD hAlo ⊢
  have hA : ∀ q : Nat, s.heap.size ≤ q → A q := fun q h => by rw [← hAe]; exact Or.inr h
  have hS : va_S A s.heap s.heap [] := va_S.rf
  have hP : va_P dD vwCl (mW cI m0 a th σ) s.heap := hP
  obtain ⟨i_now, i_n, i_tk, i_k, i_lt, i_row, i_cp, i_srv⟩ := id hI
  have hl := lv_entry ([.ref m0, .int x]) (n := 2) (Nat.le_of_ble_eq_true rfl)
  rw [lg_entry_eq]
  generalize (lg_sl ([.ref m0, .int x]) ++ List.replicate (2 - (lg_sl ([.ref m0, .int x])).length) Slot.unset).toArray = ls at hl ⊢
  have hl : lv_has ls 2 [(0, .ref m0), (1, .int x)] := hl
  refine lv_aload_n hx hb dX3_late_0 rfl (lv_at hl 0 rfl) ?_
  refine lv_iload_n hx hb dX3_late_1 rfl (lv_at hl 1 rfl) ?_
  have hFc := va_free (wc := (mW cI m0 a th σ)) hD hS hA [0, 1, 2, 3, 4, 5, 6, 7, 8, 9] rfl
  refine va_calli (va_runV (As := [.int x]) (rest := []) ⟨hx, hb, hml, hown, hts⟩ (c_X3_asksRow l dD cI cR cS lo s.heap.size (Nat.le_trans hlo hS.1) m0 a th σ hI x) (cwV 1 hts gX3_late_X3_asksRow rfl rfl rfl (by decide +kernel) ⟨Nat.le_of_ble_eq_true rfl, Nat.le_of_ble_eq_true rfl⟩) (ePreV hE (hS.mono hAlo) hP (k := 0) rfl rfl ⟨rfl, hP, va_D_fst hD0 rfl⟩) rfl rfl hl.1 rfl (lv_room (Nat.le_of_ble_eq_true rfl)) dX3_late_2 ⟨Nat.le_of_ble_eq_true rfl, Nat.le_of_ble_eq_true rfl⟩) hS (fun q _ h => hFc q h) hFc (fun r_2 u_ t_ H1 locs ht_ hvm_ hw_2 hB_ hz_ hk_ hS => ?_)
  obtain ⟨th_, σ_⟩ := u_
  rcases hw_2 with ⟨hc_, e_1, rfl⟩ | ⟨hc_, e_1, rfl⟩
  · cases e_1
    have hP : va_P dD vwCl (mW cI m0 a 0 σ) H1 := by rw [← ht_]; exact hB_
    have hD : va_D A (mW cI m0 a 0 σ) := va_D_fst hD rfl
    obtain ⟨i, hi_, rfl⟩ := ri_of (n := s_n σ) (by omega) hc_
    obtain ⟨hz_1, hz_2, hz_3, hz_4⟩ := i_row i hi_
    refine nv_if_eq (tgt := 24) hx hb dX3_late_5 (by decide) (by decide) (fun c_5 => absurd c_5 (by decide)) (fun c_5 => ?_)
    refine lv_aload_n hx hb dX3_late_8 rfl (lv_at hl 0 rfl) ?_
    refine va_get (D := dD) (ci := 3) (v := .ref (a 3)) (C := RX3) (T := TX3) (N := 14) hx hb hts hinX3 hown hK hP 0 rfl rfl 6 (by decide) (hts (.fieldLink RX3 19 "FeatureStoreModel" "arrival" "[I") (by decide +kernel)) (fun _ h9 => h9) rfl dX3_late_9 ?_
    refine lv_iload_n hx hb dX3_late_12 rfl (lv_at hl 1 rfl) ?_
    refine nv_iald (q0 := 4) (t0 := 0) (s_ar σ) hx hb hK hP rfl rfl (by omega) (by decide) dX3_late_13 ?_
    refine lv_aload_n hx hb dX3_late_14 rfl (lv_at hl 0 rfl) ?_
    refine va_get (D := dD) (ci := 3) (v := .ref (a 2)) (C := RX3) (T := TX3) (N := 14) hx hb hts hinX3 hown hK hP 0 rfl rfl 5 (by decide) (hts (.fieldLink RX3 16 "FeatureStoreModel" "event" "[I") (by decide +kernel)) (fun _ h9 => h9) rfl dX3_late_15 ?_
    refine lv_iload_n hx hb dX3_late_18 rfl (lv_at hl 1 rfl) ?_
    refine nv_iald (q0 := 3) (t0 := 0) (s_ev σ) hx hb hK hP rfl rfl (by omega) (by decide) dX3_late_19 ?_
    refine nv_isub hx hb dX3_late_20 (by omega) ?_
    refine lv_goto (tgt := 25) hx hb dX3_late_21 (by decide) ?_
    exact W.iret (v := nI ((s_ar σ i) - (s_ev σ i))) hx hb hr (fun u9 hu9 hW => ⟨⟨nI ((s_ar σ i) - (s_ev σ i)), (0, σ), rfl, Or.inl ⟨hc_, trivial, rfl, by rw [cl_nI (by omega)]⟩, by have h9 := hP; rw [← hu9] at h9; exact h9⟩, hS.F hu9⟩) hS.2.2 dX3_late_25
  · cases e_1
    have hP : va_P dD vwCl (mW cI m0 a 1 σ) H1 := by rw [← ht_]; exact hB_
    have hD : va_D A (mW cI m0 a 1 σ) := va_D_fst hD rfl
    refine nv_if_eq (tgt := 24) hx hb dX3_late_5 (by decide) (by decide) (fun c_5 => ?_) (fun c_5 => absurd c_5 (by decide))
    refine lv_iconst (v := nI 0) hx hb dX3_late_24 (by decide +kernel) ?_
    exact W.iret (v := nI 0) hx hb hr (fun u9 hu9 hW => ⟨⟨nI 0, (1, σ), rfl, Or.inr (Or.inl ⟨hc_, rfl⟩), by have h9 := hP; rw [← hu9] at h9; exact h9⟩, hS.F hu9⟩) hS.2.2 dX3_late_25

set_option maxHeartbeats 4000000 in
set_option maxRecDepth 100000 in
theorem c_X3_served (l : Launch) (dD : va_G) (cI cR cS : ClassId) (lo : Nat) (sz : Nat) (hlo : lo ≤ sz) (m0 : Nat) (a : Nat → Nat) (th : Nat) (σ : St) (hI : sI σ) (x : Int32) : Met l yX3_served wsX3_served ({ frames := 2, cells := 0, slots := 0, locals := 43 }) (ePc dD cI cR cS lo [.ref m0, .int x] (fun H => H.size = sz ∧ va_P dD vwCl (mW cI m0 a th σ) H ∧ va_D (fun q => lo ≤ q) (mW cI m0 a th σ))) (va_Qi (fun (r : Int32) (u : Nat × St) => R3 (ri x (s_k σ)) True σ σ (eN (s_sv σ (cl x))) r u) (fun u t => va_P dD vwCl (mW cI m0 a u.1 u.2) t.heap) (va_A (mW cI m0 a th σ) sz)) 0 0 (va_A (mW cI m0 a th σ) sz) := by
  refine Met.ofW (cc := cX3_served) (maxL := 2) (ret := (some .int)) (by decide) rfl ?_
  intro p e_ s m args below meth c s₁ B hml hv
  obtain ⟨rfl, hE, hsz, hP, hD0⟩ := hv
  have hx := B.exec
  have hb := B.bytes
  have hr := B.returns
  have hts := atoms_spec (ws := wsX3_served) B.pre
  have hown : s.vm.findClass RX3 = some m.cls := findClass_of_methodNamed B.named
  have hlocks := B.notSynchronized
  have hK := hE.1.1
  have hinX3 : ∀ w ∈ u_ws RX3 TX3 14, w ∈ wsX3_served := by decide +kernel
  subst hsz
  have hD := hD0.self (sz := s.heap.size)
  have hAlo : ∀ q, va_A (mW cI m0 a th σ) s.heap.size q → lo ≤ q := eA_lo hD0 hlo
  generalize hAe : va_A (mW cI m0 a th σ) s.heap.size = A at hD hAlo ⊢
  have hA : ∀ q : Nat, s.heap.size ≤ q → A q := fun q h => by rw [← hAe]; exact Or.inr h
  have hS : va_S A s.heap s.heap [] := va_S.rf
  have hP : va_P dD vwCl (mW cI m0 a th σ) s.heap := hP
  obtain ⟨i_now, i_n, i_tk, i_k, i_lt, i_row, i_cp, i_srv⟩ := id hI
  have hl := lv_entry ([.ref m0, .int x]) (n := 2) (Nat.le_of_ble_eq_true rfl)
  rw [lg_entry_eq]
  generalize (lg_sl ([.ref m0, .int x]) ++ List.replicate (2 - (lg_sl ([.ref m0, .int x])).length) Slot.unset).toArray = ls at hl ⊢
  have hl : lv_has ls 2 [(0, .ref m0), (1, .int x)] := hl
  refine lv_aload_n hx hb dX3_served_0 rfl (lv_at hl 0 rfl) ?_
  refine lv_iload_n hx hb dX3_served_1 rfl (lv_at hl 1 rfl) ?_
  have hFc := va_free (wc := (mW cI m0 a th σ)) hD hS hA [0, 1, 2, 3, 4, 5, 6, 7, 8, 9] rfl
  refine va_calli (va_runV (As := [.int x]) (rest := []) ⟨hx, hb, hml, hown, hts⟩ (c_X3_asksServing l dD cI cR cS lo s.heap.size (Nat.le_trans hlo hS.1) m0 a th σ hI x) (cwV 1 hts gX3_served_X3_asksServing rfl rfl rfl (by decide +kernel) ⟨Nat.le_of_ble_eq_true rfl, Nat.le_of_ble_eq_true rfl⟩) (ePreV hE (hS.mono hAlo) hP (k := 0) rfl rfl ⟨rfl, hP, va_D_fst hD0 rfl⟩) rfl rfl hl.1 rfl (lv_room (Nat.le_of_ble_eq_true rfl)) dX3_served_2 ⟨Nat.le_of_ble_eq_true rfl, Nat.le_of_ble_eq_true rfl⟩) hS (fun q _ h => hFc q h) hFc (fun r_2 u_ t_ H1 locs ht_ hvm_ hw_2 hB_ hz_ hk_ hS => ?_)
  obtain ⟨th_, σ_⟩ := u_
  rcases hw_2 with ⟨hc_, e_1, rfl⟩ | ⟨hc_, e_1, rfl⟩
  · cases e_1
    have hP : va_P dD vwCl (mW cI m0 a 0 σ) H1 := by rw [← ht_]; exact hB_
    have hD : va_D A (mW cI m0 a 0 σ) := va_D_fst hD rfl
    obtain ⟨i, hi_, rfl⟩ := ri_of (n := s_k σ) (by omega) hc_
    refine nv_if_eq (tgt := 17) hx hb dX3_served_5 (by decide) (by decide) (fun c_5 => absurd c_5 (by decide)) (fun c_5 => ?_)
    refine lv_aload_n hx hb dX3_served_8 rfl (lv_at hl 0 rfl) ?_
    refine va_get (D := dD) (ci := 3) (v := .ref (a 8)) (C := RX3) (T := TX3) (N := 14) hx hb hts hinX3 hown hK hP 0 rfl rfl 13 (by decide) (hts (.fieldLink RX3 34 "FeatureStoreModel" "served" "[I") (by decide +kernel)) (fun _ h9 => h9) rfl dX3_served_9 ?_
    refine lv_iload_n hx hb dX3_served_12 rfl (lv_at hl 1 rfl) ?_
    refine nv_eald (q0 := 9) (t0 := 0) (s_sv σ) hx hb hK hP rfl rfl (by omega) (by decide) dX3_served_13 ?_
    refine lv_goto (tgt := 18) hx hb dX3_served_14 (by decide) ?_
    exact W.iret (v := eN (s_sv σ i)) hx hb hr (fun u9 hu9 hW => ⟨⟨eN (s_sv σ i), (0, σ), rfl, Or.inl ⟨hc_, trivial, rfl, by rw [cl_nI (by omega)]⟩, by have h9 := hP; rw [← hu9] at h9; exact h9⟩, hS.F hu9⟩) hS.2.2 dX3_served_18
  · cases e_1
    have hP : va_P dD vwCl (mW cI m0 a 1 σ) H1 := by rw [← ht_]; exact hB_
    have hD : va_D A (mW cI m0 a 1 σ) := va_D_fst hD rfl
    refine nv_if_eq (tgt := 17) hx hb dX3_served_5 (by decide) (by decide) (fun c_5 => ?_) (fun c_5 => absurd c_5 (by decide))
    refine lv_iconst (v := nI 0) hx hb dX3_served_17 (by decide +kernel) ?_
    exact W.iret (v := nI 0) hx hb hr (fun u9 hu9 hW => ⟨⟨nI 0, (1, σ), rfl, Or.inr (Or.inl ⟨hc_, rfl⟩), by have h9 := hP; rw [← hu9] at h9; exact h9⟩, hS.F hu9⟩) hS.2.2 dX3_served_18

/-- 1 for a sound serving -/
def q_snd (σ : St) (i : Nat) : Nat := if s_sv σ i = q_join σ (s_sp σ i) (s_sa σ i) (s_sa σ i) then 1 else 0

set_option maxHeartbeats 4000000 in
set_option maxRecDepth 100000 in
theorem c_X3_isSound (l : Launch) (dD : va_G) (cI cR cS : ClassId) (lo : Nat) (sz : Nat) (hlo : lo ≤ sz) (m0 : Nat) (a : Nat → Nat) (th : Nat) (σ : St) (hI : sI σ) (x : Int32) : Met l yX3_isSound wsX3_isSound ({ frames := 3, cells := 0, slots := 0, locals := 70 }) (ePc dD cI cR cS lo [.ref m0, .int x] (fun H => H.size = sz ∧ va_P dD vwCl (mW cI m0 a th σ) H ∧ va_D (fun q => lo ≤ q) (mW cI m0 a th σ))) (va_Qi (fun (r : Int32) (u : Nat × St) => R3 (ri x (s_k σ)) True σ σ (nI (q_snd σ (cl x))) r u) (fun u t => va_P dD vwCl (mW cI m0 a u.1 u.2) t.heap) (va_A (mW cI m0 a th σ) sz)) 0 0 (va_A (mW cI m0 a th σ) sz) := by
  refine Met.ofW (cc := cX3_isSound) (maxL := 2) (ret := (some .boolean)) (by decide) rfl ?_
  intro p e_ s m args below meth c s₁ B hml hv
  obtain ⟨rfl, hE, hsz, hP, hD0⟩ := hv
  have hx := B.exec
  have hb := B.bytes
  have hr := B.returns
  have hts := atoms_spec (ws := wsX3_isSound) B.pre
  have hown : s.vm.findClass RX3 = some m.cls := findClass_of_methodNamed B.named
  have hlocks := B.notSynchronized
  have hK := hE.1.1
  subst hsz
  have hD := hD0.self (sz := s.heap.size)
  have hAlo : ∀ q, va_A (mW cI m0 a th σ) s.heap.size q → lo ≤ q := eA_lo hD0 hlo
  generalize hAe : va_A (mW cI m0 a th σ) s.heap.size = A at hD hAlo ⊢
  have hA : ∀ q : Nat, s.heap.size ≤ q → A q := fun q h => by rw [← hAe]; exact Or.inr h
  have hS : va_S A s.heap s.heap [] := va_S.rf
  have hP : va_P dD vwCl (mW cI m0 a th σ) s.heap := hP
  obtain ⟨i_now, i_n, i_tk, i_k, i_lt, i_row, i_cp, i_srv⟩ := id hI
  have hl := lv_entry ([.ref m0, .int x]) (n := 2) (Nat.le_of_ble_eq_true rfl)
  rw [lg_entry_eq]
  generalize (lg_sl ([.ref m0, .int x]) ++ List.replicate (2 - (lg_sl ([.ref m0, .int x])).length) Slot.unset).toArray = ls at hl ⊢
  have hl : lv_has ls 2 [(0, .ref m0), (1, .int x)] := hl
  refine lv_aload_n hx hb dX3_isSound_0 rfl (lv_at hl 0 rfl) ?_
  refine lv_iload_n hx hb dX3_isSound_1 rfl (lv_at hl 1 rfl) ?_
  have hFc := va_free (wc := (mW cI m0 a th σ)) hD hS hA [0, 1, 2, 3, 4, 5, 6, 7, 8, 9] rfl
  refine va_calli (va_runV (As := [.int x]) (rest := []) ⟨hx, hb, hml, hown, hts⟩ (c_X3_asksServing l dD cI cR cS lo s.heap.size (Nat.le_trans hlo hS.1) m0 a th σ hI x) (cwV 1 hts gX3_isSound_X3_asksServing rfl rfl rfl (by decide +kernel) ⟨Nat.le_of_ble_eq_true rfl, Nat.le_of_ble_eq_true rfl⟩) (ePreV hE (hS.mono hAlo) hP (k := 0) rfl rfl ⟨rfl, hP, va_D_fst hD0 rfl⟩) rfl rfl hl.1 rfl (lv_room (Nat.le_of_ble_eq_true rfl)) dX3_isSound_2 ⟨Nat.le_of_ble_eq_true rfl, Nat.le_of_ble_eq_true rfl⟩) hS (fun q _ h => hFc q h) hFc (fun r_2 u_ t_ H1 locs ht_ hvm_ hw_2 hB_ hz_ hk_ hS => ?_)
  obtain ⟨th_, σ_⟩ := u_
  rcases hw_2 with ⟨hc_, e_1, rfl⟩ | ⟨hc_, e_1, rfl⟩
  · cases e_1
    have hP : va_P dD vwCl (mW cI m0 a 0 σ) H1 := by rw [← ht_]; exact hB_
    have hD : va_D A (mW cI m0 a 0 σ) := va_D_fst hD rfl
    obtain ⟨i, hi_, rfl⟩ := ri_of (n := s_k σ) (by omega) hc_
    refine nv_if_eq (tgt := 20) hx hb dX3_isSound_5 (by decide) (by decide) (fun c_5 => absurd c_5 (by decide)) (fun c_5 => ?_)
    refine lv_aload_n hx hb dX3_isSound_8 rfl (lv_at hl 0 rfl) ?_
    refine lv_iload_n hx hb dX3_isSound_9 rfl (lv_at hl 1 rfl) ?_
    refine vp_callSi (va_Run.run (va_runV (As := [.int (nI i)]) (rest := []) ⟨hx, hb, hml, hown, hts⟩ (c_X3_isRight l dD cI cR cS lo m0 a 0 σ hI i hi_) (cwV 1 hts gX3_isSound_X3_isRight rfl rfl rfl (by decide +kernel) ⟨Nat.le_of_ble_eq_true rfl, Nat.le_of_ble_eq_true rfl⟩) (ePreV hE (hS.mono hAlo) hP (k := 0) rfl rfl hP) rfl rfl hl.1 rfl (lv_room (Nat.le_of_ble_eq_true rfl)) dX3_isSound_10 ⟨Nat.le_of_ble_eq_true rfl, Nat.le_of_ble_eq_true rfl⟩)) (fun r_10 hr_10 => ?_)
    rcases hr_10 with ⟨rfl, hr_10⟩ | ⟨rfl, hr_10⟩
    · refine nv_if_eq (tgt := 20) hx hb dX3_isSound_13 (by decide) (by decide) (fun c_13 => absurd c_13 (by decide)) (fun c_13 => ?_)
      refine lv_iconst (v := nI 1) hx hb dX3_isSound_16 (by decide +kernel) ?_
      refine lv_goto (tgt := 21) hx hb dX3_isSound_17 (by decide) ?_
      exact W.zret (v := nI 1) hx hb hr rfl (fun u9 hu9 hW => ⟨⟨nI 1, (0, σ), rfl, Or.inl ⟨hc_, trivial, rfl, by rw [cl_nI (by omega), q_snd, if_pos hr_10]⟩, by have h9 := hP; rw [← hu9] at h9; exact h9⟩, hS.F hu9⟩) hS.2.2 dX3_isSound_21
    · refine nv_if_eq (tgt := 20) hx hb dX3_isSound_13 (by decide) (by decide) (fun c_13 => ?_) (fun c_13 => absurd c_13 (by decide))
      refine lv_iconst (v := nI 0) hx hb dX3_isSound_20 (by decide +kernel) ?_
      exact W.zret (v := nI 0) hx hb hr rfl (fun u9 hu9 hW => ⟨⟨nI 0, (0, σ), rfl, Or.inl ⟨hc_, trivial, rfl, by rw [cl_nI (by omega), q_snd, if_neg hr_10]⟩, by have h9 := hP; rw [← hu9] at h9; exact h9⟩, hS.F hu9⟩) hS.2.2 dX3_isSound_21
  · cases e_1
    have hP : va_P dD vwCl (mW cI m0 a 1 σ) H1 := by rw [← ht_]; exact hB_
    have hD : va_D A (mW cI m0 a 1 σ) := va_D_fst hD rfl
    refine nv_if_eq (tgt := 20) hx hb dX3_isSound_5 (by decide) (by decide) (fun c_5 => ?_) (fun c_5 => absurd c_5 (by decide))
    refine lv_iconst (v := nI 0) hx hb dX3_isSound_20 (by decide +kernel) ?_
    exact W.zret (v := nI 0) hx hb hr rfl (fun u9 hu9 hW => ⟨⟨nI 0, (1, σ), rfl, Or.inr (Or.inl ⟨hc_, rfl⟩), by have h9 := hP; rw [← hu9] at h9; exact h9⟩, hS.F hu9⟩) hS.2.2 dX3_isSound_21

set_option maxHeartbeats 4000000 in
set_option maxRecDepth 100000 in
theorem c_X3_asksTiles (l : Launch) (dD : va_G) (cI cR cS : ClassId) (lo : Nat) (sz : Nat) (hlo : lo ≤ sz) (m0 : Nat) (a : Nat → Nat) (th : Nat) (σ : St) (hI : sI σ) (f e x : Int32) : Met l yX3_asksTiles wsX3_asksTiles ({ frames := 2, cells := 0, slots := 0, locals := 43 }) (ePc dD cI cR cS lo [.ref m0, .int f, .int e, .int x] (fun H => H.size = sz ∧ va_P dD vwCl (mW cI m0 a th σ) H ∧ va_D (fun q => lo ≤ q) (mW cI m0 a th σ))) (va_Qi (fun (r : Int32) (u : Nat × St) => ((okP f e ∧ rg x 1 10000) ∧ u = (0, σ) ∧ r = nI 1) ∨ (¬ (okP f e ∧ rg x 1 10000) ∧ u = (1, σ) ∧ r = nI 0)) (fun u t => va_P dD vwCl (mW cI m0 a u.1 u.2) t.heap) (va_A (mW cI m0 a th σ) sz)) 0 0 (va_A (mW cI m0 a th σ) sz) := by
  refine Met.ofW (cc := cX3_asksTiles) (maxL := 4) (ret := (some .boolean)) (by decide) rfl ?_
  intro p e_ s m args below meth c s₁ B hml hv
  obtain ⟨rfl, hE, hsz, hP, hD0⟩ := hv
  have hx := B.exec
  have hb := B.bytes
  have hr := B.returns
  have hts := atoms_spec (ws := wsX3_asksTiles) B.pre
  have hown : s.vm.findClass RX3 = some m.cls := findClass_of_methodNamed B.named
  have hlocks := B.notSynchronized
  have hK := hE.1.1
  have hinX3 : ∀ w ∈ u_ws RX3 TX3 14, w ∈ wsX3_asksTiles := by decide +kernel
  subst hsz
  have hD := hD0.self (sz := s.heap.size)
  have hAlo : ∀ q, va_A (mW cI m0 a th σ) s.heap.size q → lo ≤ q := eA_lo hD0 hlo
  generalize hAe : va_A (mW cI m0 a th σ) s.heap.size = A at hD hAlo ⊢
  have hA : ∀ q : Nat, s.heap.size ≤ q → A q := fun q h => by rw [← hAe]; exact Or.inr h
  have hS : va_S A s.heap s.heap [] := va_S.rf
  have hP : va_P dD vwCl (mW cI m0 a th σ) s.heap := hP
  obtain ⟨i_now, i_n, i_tk, i_k, i_lt, i_row, i_cp, i_srv⟩ := id hI
  have hl := lv_entry ([.ref m0, .int f, .int e, .int x]) (n := 4) (Nat.le_of_ble_eq_true rfl)
  rw [lg_entry_eq]
  generalize (lg_sl ([.ref m0, .int f, .int e, .int x]) ++ List.replicate (4 - (lg_sl ([.ref m0, .int f, .int e, .int x])).length) Slot.unset).toArray = ls at hl ⊢
  have hl : lv_has ls 4 [(0, .ref m0), (1, .int f), (2, .int e), (3, .int x)] := hl
  refine lv_aload_n hx hb dX3_asksTiles_0 rfl (lv_at hl 0 rfl) ?_
  refine lv_iload_n hx hb dX3_asksTiles_1 rfl (lv_at hl 1 rfl) ?_
  refine lv_iload_n hx hb dX3_asksTiles_2 rfl (lv_at hl 2 rfl) ?_
  refine vp_callSi (va_Run.run (va_runS (As := [.int f, .int e]) (rest := [.ref m0]) ⟨hx, hb, hml, hown, hts⟩ (c_X3_isPair l dD cI cR cS lo f e) (va_cwS 2 hts gX3_asksTiles_X3_isPair rfl rfl rfl (by decide +kernel) ⟨Nat.le_of_ble_eq_true rfl, Nat.le_of_ble_eq_true rfl⟩) (ePreS hE (hS.mono hAlo) trivial) rfl rfl hl.1 rfl (lv_room (Nat.le_of_ble_eq_true rfl)) dX3_asksTiles_3 ⟨Nat.le_of_ble_eq_true rfl, Nat.le_of_ble_eq_true rfl⟩)) (fun r_3 hr_3 => ?_)
  rcases hr_3 with ⟨rfl, hr_3⟩ | ⟨rfl, hr_3⟩
  · refine nv_if_eq (tgt := 24) hx hb dX3_asksTiles_6 (by decide) (by decide) (fun c_6 => absurd c_6 (by decide)) (fun c_6 => ?_)
    refine lv_iload_n hx hb dX3_asksTiles_9 rfl (lv_at hl 3 rfl) ?_
    refine lv_iconst (v := nI 1) hx hb dX3_asksTiles_10 (by decide +kernel) ?_
    refine lv_sipush (v := nI 10000) hx hb dX3_asksTiles_11 (by decide +kernel) ?_
    refine vp_callSi (va_Run.run (va_runS (As := [.int x, .int (nI 1), .int (nI 10000)]) (rest := [.ref m0]) ⟨hx, hb, hml, hown, hts⟩ (c_X3_in l dD cI cR cS lo x (nI 1) (nI 10000)) (va_cwS 3 hts gX3_asksTiles_X3_in rfl rfl rfl (by decide +kernel) ⟨Nat.le_of_ble_eq_true rfl, Nat.le_of_ble_eq_true rfl⟩) (ePreS hE (hS.mono hAlo) trivial) rfl rfl hl.1 rfl (lv_room (Nat.le_of_ble_eq_true rfl)) dX3_asksTiles_14 ⟨Nat.le_of_ble_eq_true rfl, Nat.le_of_ble_eq_true rfl⟩)) (fun r_14 hr_14 => ?_)
    rcases hr_14 with ⟨rfl, hr_14⟩ | ⟨rfl, hr_14⟩
    · refine nv_if_eq (tgt := 24) hx hb dX3_asksTiles_17 (by decide) (by decide) (fun c_17 => absurd c_17 (by decide)) (fun c_17 => ?_)
      refine lv_iconst (v := nI 0) hx hb dX3_asksTiles_20 (by decide +kernel) ?_
      refine lv_goto (tgt := 25) hx hb dX3_asksTiles_21 (by decide) ?_
      refine va_put (D := dD) (ci := 3) (v := .int (nI 0)) (ty := .int) (C := RX3) (T := TX3) (N := 14) hx hb hts hinX3 tyX3 tyX3_ok nmX3 hown hK hP hD hS 0 rfl rfl 0 (by decide) (hts (.fieldLink RX3 37 "FeatureStoreModel" "thrown" "I") (by decide +kernel)) (fun _ h9 => h9) rfl (by decide +kernel) rfl rfl (Nat.le_of_ble_eq_true rfl) dX3_asksTiles_25 (fun H locs hP hD hS => ?_)
      have hP : va_P dD vwCl [(m0, .inr (3, [.int (nI 0), .int (nI (s_now σ)), .ref (a 0), .int (nI (s_n σ)), .ref (a 1), .ref (a 2), .ref (a 3), .ref (a 4), .int (nI (s_tk σ)), .ref (a 5), .int (nI (s_k σ)), .ref (a 6), .ref (a 7), .ref (a 8)])), (a 0, .inl (cI, 6, .inl (fun j => nI (s_lt σ j)))), (a 1, .inl (cI, 200, .inl (fun j => nI (s_pr σ j)))), (a 2, .inl (cI, 200, .inl (fun j => nI (s_ev σ j)))), (a 3, .inl (cI, 200, .inl (fun j => nI (s_ar σ j)))), (a 4, .inl (cI, 200, .inl (fun j => nI (s_vl σ j)))), (a 5, .inl (cI, 60, .inl (fun j => nI (s_cp σ j)))), (a 6, .inl (cI, 200, .inl (fun j => nI (s_sp σ j)))), (a 7, .inl (cI, 200, .inl (fun j => nI (s_sa σ j)))), (a 8, .inl (cI, 200, .inl (fun j => eN (s_sv σ j))))] H := hP
      have hD : va_D A [(m0, .inr (3, [.int (nI 0), .int (nI (s_now σ)), .ref (a 0), .int (nI (s_n σ)), .ref (a 1), .ref (a 2), .ref (a 3), .ref (a 4), .int (nI (s_tk σ)), .ref (a 5), .int (nI (s_k σ)), .ref (a 6), .ref (a 7), .ref (a 8)])), (a 0, .inl (cI, 6, .inl (fun j => nI (s_lt σ j)))), (a 1, .inl (cI, 200, .inl (fun j => nI (s_pr σ j)))), (a 2, .inl (cI, 200, .inl (fun j => nI (s_ev σ j)))), (a 3, .inl (cI, 200, .inl (fun j => nI (s_ar σ j)))), (a 4, .inl (cI, 200, .inl (fun j => nI (s_vl σ j)))), (a 5, .inl (cI, 60, .inl (fun j => nI (s_cp σ j)))), (a 6, .inl (cI, 200, .inl (fun j => nI (s_sp σ j)))), (a 7, .inl (cI, 200, .inl (fun j => nI (s_sa σ j)))), (a 8, .inl (cI, 200, .inl (fun j => eN (s_sv σ j))))] := hD
      refine lv_aload_n hx hb dX3_asksTiles_28 rfl (lv_at hl 0 rfl) ?_
      refine va_get (D := dD) (ci := 3) (v := .int (nI 0)) (C := RX3) (T := TX3) (N := 14) hx hb hts hinX3 hown hK hP 0 rfl rfl 0 (by decide) (hts (.fieldLink RX3 37 "FeatureStoreModel" "thrown" "I") (by decide +kernel)) (fun _ h9 => h9) rfl dX3_asksTiles_29 ?_
      refine nv_if_ne (tgt := 39) hx hb dX3_asksTiles_32 (by decide) (by decide) (fun c_32 => absurd c_32 (by decide)) (fun c_32 => ?_)
      refine lv_iconst (v := nI 1) hx hb dX3_asksTiles_35 (by decide +kernel) ?_
      refine lv_goto (tgt := 40) hx hb dX3_asksTiles_36 (by decide) ?_
      exact W.zret (v := nI 1) hx hb hr rfl (fun u9 hu9 hW => ⟨⟨nI 1, (0, σ), rfl, Or.inl ⟨⟨hr_3, hr_14⟩, rfl, rfl⟩, by have h9 := hP; rw [← hu9] at h9; exact h9⟩, hS.F hu9⟩) hS.2.2 dX3_asksTiles_40
    · refine nv_if_eq (tgt := 24) hx hb dX3_asksTiles_17 (by decide) (by decide) (fun c_17 => ?_) (fun c_17 => absurd c_17 (by decide))
      refine lv_iconst (v := nI 1) hx hb dX3_asksTiles_24 (by decide +kernel) ?_
      refine va_put (D := dD) (ci := 3) (v := .int (nI 1)) (ty := .int) (C := RX3) (T := TX3) (N := 14) hx hb hts hinX3 tyX3 tyX3_ok nmX3 hown hK hP hD hS 0 rfl rfl 0 (by decide) (hts (.fieldLink RX3 37 "FeatureStoreModel" "thrown" "I") (by decide +kernel)) (fun _ h9 => h9) rfl (by decide +kernel) rfl rfl (Nat.le_of_ble_eq_true rfl) dX3_asksTiles_25 (fun H locs hP hD hS => ?_)
      have hP : va_P dD vwCl [(m0, .inr (3, [.int (nI 1), .int (nI (s_now σ)), .ref (a 0), .int (nI (s_n σ)), .ref (a 1), .ref (a 2), .ref (a 3), .ref (a 4), .int (nI (s_tk σ)), .ref (a 5), .int (nI (s_k σ)), .ref (a 6), .ref (a 7), .ref (a 8)])), (a 0, .inl (cI, 6, .inl (fun j => nI (s_lt σ j)))), (a 1, .inl (cI, 200, .inl (fun j => nI (s_pr σ j)))), (a 2, .inl (cI, 200, .inl (fun j => nI (s_ev σ j)))), (a 3, .inl (cI, 200, .inl (fun j => nI (s_ar σ j)))), (a 4, .inl (cI, 200, .inl (fun j => nI (s_vl σ j)))), (a 5, .inl (cI, 60, .inl (fun j => nI (s_cp σ j)))), (a 6, .inl (cI, 200, .inl (fun j => nI (s_sp σ j)))), (a 7, .inl (cI, 200, .inl (fun j => nI (s_sa σ j)))), (a 8, .inl (cI, 200, .inl (fun j => eN (s_sv σ j))))] H := hP
      have hD : va_D A [(m0, .inr (3, [.int (nI 1), .int (nI (s_now σ)), .ref (a 0), .int (nI (s_n σ)), .ref (a 1), .ref (a 2), .ref (a 3), .ref (a 4), .int (nI (s_tk σ)), .ref (a 5), .int (nI (s_k σ)), .ref (a 6), .ref (a 7), .ref (a 8)])), (a 0, .inl (cI, 6, .inl (fun j => nI (s_lt σ j)))), (a 1, .inl (cI, 200, .inl (fun j => nI (s_pr σ j)))), (a 2, .inl (cI, 200, .inl (fun j => nI (s_ev σ j)))), (a 3, .inl (cI, 200, .inl (fun j => nI (s_ar σ j)))), (a 4, .inl (cI, 200, .inl (fun j => nI (s_vl σ j)))), (a 5, .inl (cI, 60, .inl (fun j => nI (s_cp σ j)))), (a 6, .inl (cI, 200, .inl (fun j => nI (s_sp σ j)))), (a 7, .inl (cI, 200, .inl (fun j => nI (s_sa σ j)))), (a 8, .inl (cI, 200, .inl (fun j => eN (s_sv σ j))))] := hD
      refine lv_aload_n hx hb dX3_asksTiles_28 rfl (lv_at hl 0 rfl) ?_
      refine va_get (D := dD) (ci := 3) (v := .int (nI 1)) (C := RX3) (T := TX3) (N := 14) hx hb hts hinX3 hown hK hP 0 rfl rfl 0 (by decide) (hts (.fieldLink RX3 37 "FeatureStoreModel" "thrown" "I") (by decide +kernel)) (fun _ h9 => h9) rfl dX3_asksTiles_29 ?_
      refine nv_if_ne (tgt := 39) hx hb dX3_asksTiles_32 (by decide) (by decide) (fun c_32 => ?_) (fun c_32 => absurd c_32 (by decide))
      refine lv_iconst (v := nI 0) hx hb dX3_asksTiles_39 (by decide +kernel) ?_
      exact W.zret (v := nI 0) hx hb hr rfl (fun u9 hu9 hW => ⟨⟨nI 0, (1, σ), rfl, Or.inr ⟨fun h => hr_14 h.2, rfl, rfl⟩, by have h9 := hP; rw [← hu9] at h9; exact h9⟩, hS.F hu9⟩) hS.2.2 dX3_asksTiles_40
  · refine nv_if_eq (tgt := 24) hx hb dX3_asksTiles_6 (by decide) (by decide) (fun c_6 => ?_) (fun c_6 => absurd c_6 (by decide))
    refine lv_iconst (v := nI 1) hx hb dX3_asksTiles_24 (by decide +kernel) ?_
    refine va_put (D := dD) (ci := 3) (v := .int (nI 1)) (ty := .int) (C := RX3) (T := TX3) (N := 14) hx hb hts hinX3 tyX3 tyX3_ok nmX3 hown hK hP hD hS 0 rfl rfl 0 (by decide) (hts (.fieldLink RX3 37 "FeatureStoreModel" "thrown" "I") (by decide +kernel)) (fun _ h9 => h9) rfl (by decide +kernel) rfl rfl (Nat.le_of_ble_eq_true rfl) dX3_asksTiles_25 (fun H locs hP hD hS => ?_)
    have hP : va_P dD vwCl [(m0, .inr (3, [.int (nI 1), .int (nI (s_now σ)), .ref (a 0), .int (nI (s_n σ)), .ref (a 1), .ref (a 2), .ref (a 3), .ref (a 4), .int (nI (s_tk σ)), .ref (a 5), .int (nI (s_k σ)), .ref (a 6), .ref (a 7), .ref (a 8)])), (a 0, .inl (cI, 6, .inl (fun j => nI (s_lt σ j)))), (a 1, .inl (cI, 200, .inl (fun j => nI (s_pr σ j)))), (a 2, .inl (cI, 200, .inl (fun j => nI (s_ev σ j)))), (a 3, .inl (cI, 200, .inl (fun j => nI (s_ar σ j)))), (a 4, .inl (cI, 200, .inl (fun j => nI (s_vl σ j)))), (a 5, .inl (cI, 60, .inl (fun j => nI (s_cp σ j)))), (a 6, .inl (cI, 200, .inl (fun j => nI (s_sp σ j)))), (a 7, .inl (cI, 200, .inl (fun j => nI (s_sa σ j)))), (a 8, .inl (cI, 200, .inl (fun j => eN (s_sv σ j))))] H := hP
    have hD : va_D A [(m0, .inr (3, [.int (nI 1), .int (nI (s_now σ)), .ref (a 0), .int (nI (s_n σ)), .ref (a 1), .ref (a 2), .ref (a 3), .ref (a 4), .int (nI (s_tk σ)), .ref (a 5), .int (nI (s_k σ)), .ref (a 6), .ref (a 7), .ref (a 8)])), (a 0, .inl (cI, 6, .inl (fun j => nI (s_lt σ j)))), (a 1, .inl (cI, 200, .inl (fun j => nI (s_pr σ j)))), (a 2, .inl (cI, 200, .inl (fun j => nI (s_ev σ j)))), (a 3, .inl (cI, 200, .inl (fun j => nI (s_ar σ j)))), (a 4, .inl (cI, 200, .inl (fun j => nI (s_vl σ j)))), (a 5, .inl (cI, 60, .inl (fun j => nI (s_cp σ j)))), (a 6, .inl (cI, 200, .inl (fun j => nI (s_sp σ j)))), (a 7, .inl (cI, 200, .inl (fun j => nI (s_sa σ j)))), (a 8, .inl (cI, 200, .inl (fun j => eN (s_sv σ j))))] := hD
    refine lv_aload_n hx hb dX3_asksTiles_28 rfl (lv_at hl 0 rfl) ?_
    refine va_get (D := dD) (ci := 3) (v := .int (nI 1)) (C := RX3) (T := TX3) (N := 14) hx hb hts hinX3 hown hK hP 0 rfl rfl 0 (by decide) (hts (.fieldLink RX3 37 "FeatureStoreModel" "thrown" "I") (by decide +kernel)) (fun _ h9 => h9) rfl dX3_asksTiles_29 ?_
    refine nv_if_ne (tgt := 39) hx hb dX3_asksTiles_32 (by decide) (by decide) (fun c_32 => ?_) (fun c_32 => absurd c_32 (by decide))
    refine lv_iconst (v := nI 0) hx hb dX3_asksTiles_39 (by decide +kernel) ?_
    exact W.zret (v := nI 0) hx hb hr rfl (fun u9 hu9 hW => ⟨⟨nI 0, (1, σ), rfl, Or.inr ⟨fun h => hr_3 h.1, rfl, rfl⟩, by have h9 := hP; rw [← hu9] at h9; exact h9⟩, hS.F hu9⟩) hS.2.2 dX3_asksTiles_40

set_option maxHeartbeats 4000000 in
set_option maxRecDepth 100000 in
theorem c_X3_join (l : Launch) (dD : va_G) (cI cR cS : ClassId) (lo : Nat) (sz : Nat) (hlo : lo ≤ sz) (m0 : Nat) (a : Nat → Nat) (th : Nat) (σ : St) (hI : sI σ) (f e t k : Int32) : Met l yX3_join wsX3_join ({ frames := 2, cells := 0, slots := 0, locals := 49 }) (ePc dD cI cR cS lo [.ref m0, .int f, .int e, .int t, .int k] (fun H => H.size = sz ∧ va_P dD vwCl (mW cI m0 a th σ) H ∧ va_D (fun q => lo ≤ q) (mW cI m0 a th σ))) (va_Qi (fun (r : Int32) (u : Nat × St) => R3 (okP f e ∧ rg t 0 10000 ∧ rg k 0 (s_now σ)) True σ σ (eN (q_join σ (plN f e) (cl t) (cl k))) r u) (fun u t => va_P dD vwCl (mW cI m0 a u.1 u.2) t.heap) (va_A (mW cI m0 a th σ) sz)) 0 0 (va_A (mW cI m0 a th σ) sz) := by
  refine Met.ofW (cc := cX3_join) (maxL := 5) (ret := (some .int)) (by decide) rfl ?_
  intro p e_ s m args below meth c s₁ B hml hv
  obtain ⟨rfl, hE, hsz, hP, hD0⟩ := hv
  have hx := B.exec
  have hb := B.bytes
  have hr := B.returns
  have hts := atoms_spec (ws := wsX3_join) B.pre
  have hown : s.vm.findClass RX3 = some m.cls := findClass_of_methodNamed B.named
  have hlocks := B.notSynchronized
  have hK := hE.1.1
  have hinX3 : ∀ w ∈ u_ws RX3 TX3 14, w ∈ wsX3_join := by decide +kernel
  subst hsz
  have hD := hD0.self (sz := s.heap.size)
  have hAlo : ∀ q, va_A (mW cI m0 a th σ) s.heap.size q → lo ≤ q := eA_lo hD0 hlo
  generalize hAe : va_A (mW cI m0 a th σ) s.heap.size = A at hD hAlo ⊢
  have hA : ∀ q : Nat, s.heap.size ≤ q → A q := fun q h => by rw [← hAe]; exact Or.inr h
  have hS : va_S A s.heap s.heap [] := va_S.rf
  have hP : va_P dD vwCl (mW cI m0 a th σ) s.heap := hP
  obtain ⟨i_now, i_n, i_tk, i_k, i_lt, i_row, i_cp, i_srv⟩ := id hI
  have hl := lv_entry ([.ref m0, .int f, .int e, .int t, .int k]) (n := 5) (Nat.le_of_ble_eq_true rfl)
  rw [lg_entry_eq]
  generalize (lg_sl ([.ref m0, .int f, .int e, .int t, .int k]) ++ List.replicate (5 - (lg_sl ([.ref m0, .int f, .int e, .int t, .int k])).length) Slot.unset).toArray = ls at hl ⊢
  have hl : lv_has ls 5 [(0, .ref m0), (1, .int f), (2, .int e), (3, .int t), (4, .int k)] := hl
  refine lv_aload_n hx hb dX3_join_0 rfl (lv_at hl 0 rfl) ?_
  refine lv_iload_n hx hb dX3_join_1 rfl (lv_at hl 1 rfl) ?_
  refine lv_iload_n hx hb dX3_join_2 rfl (lv_at hl 2 rfl) ?_
  refine vp_callSi (va_Run.run (va_runS (As := [.int f, .int e]) (rest := [.ref m0]) ⟨hx, hb, hml, hown, hts⟩ (c_X3_isPair l dD cI cR cS lo f e) (va_cwS 2 hts gX3_join_X3_isPair rfl rfl rfl (by decide +kernel) ⟨Nat.le_of_ble_eq_true rfl, Nat.le_of_ble_eq_true rfl⟩) (ePreS hE (hS.mono hAlo) trivial) rfl rfl hl.1 rfl (lv_room (Nat.le_of_ble_eq_true rfl)) dX3_join_3 ⟨Nat.le_of_ble_eq_true rfl, Nat.le_of_ble_eq_true rfl⟩)) (fun r_3 hr_3 => ?_)
  rcases hr_3 with ⟨rfl, hr_3⟩ | ⟨rfl, hr_3⟩
  · refine nv_if_eq (tgt := 37) hx hb dX3_join_6 (by decide) (by decide) (fun c_6 => absurd c_6 (by decide)) (fun c_6 => ?_)
    refine lv_iload_n hx hb dX3_join_9 rfl (lv_at hl 3 rfl) ?_
    refine lv_iconst (v := nI 0) hx hb dX3_join_10 (by decide +kernel) ?_
    refine lv_sipush (v := nI 10000) hx hb dX3_join_11 (by decide +kernel) ?_
    refine vp_callSi (va_Run.run (va_runS (As := [.int t, .int (nI 0), .int (nI 10000)]) (rest := [.ref m0]) ⟨hx, hb, hml, hown, hts⟩ (c_X3_in l dD cI cR cS lo t (nI 0) (nI 10000)) (va_cwS 3 hts gX3_join_X3_in rfl rfl rfl (by decide +kernel) ⟨Nat.le_of_ble_eq_true rfl, Nat.le_of_ble_eq_true rfl⟩) (ePreS hE (hS.mono hAlo) trivial) rfl rfl hl.1 rfl (lv_room (Nat.le_of_ble_eq_true rfl)) dX3_join_14 ⟨Nat.le_of_ble_eq_true rfl, Nat.le_of_ble_eq_true rfl⟩)) (fun r_14 hr_14 => ?_)
    rcases hr_14 with ⟨rfl, hr_14⟩ | ⟨rfl, hr_14⟩
    · refine nv_if_eq (tgt := 37) hx hb dX3_join_17 (by decide) (by decide) (fun c_17 => absurd c_17 (by decide)) (fun c_17 => ?_)
      refine lv_iload hx hb dX3_join_20 (lv_at hl 4 rfl) ?_
      refine lv_iconst (v := nI 0) hx hb dX3_join_22 (by decide +kernel) ?_
      refine lv_aload_n hx hb dX3_join_23 rfl (lv_at hl 0 rfl) ?_
      refine va_get (D := dD) (ci := 3) (v := .int (nI (s_now σ))) (C := RX3) (T := TX3) (N := 14) hx hb hts hinX3 hown hK hP 0 rfl rfl 1 (by decide) (hts (.fieldLink RX3 49 "FeatureStoreModel" "now" "I") (by decide +kernel)) (fun _ h9 => h9) rfl dX3_join_24 ?_
      refine vp_callSi (va_Run.run (va_runS (As := [.int k, .int (nI 0), .int (nI (s_now σ))]) (rest := [.ref m0]) ⟨hx, hb, hml, hown, hts⟩ (c_X3_in l dD cI cR cS lo k (nI 0) (nI (s_now σ))) (va_cwS 3 hts gX3_join_X3_in rfl rfl rfl (by decide +kernel) ⟨Nat.le_of_ble_eq_true rfl, Nat.le_of_ble_eq_true rfl⟩) (ePreS hE (hS.mono hAlo) trivial) rfl rfl hl.1 rfl (lv_room (Nat.le_of_ble_eq_true rfl)) dX3_join_27 ⟨Nat.le_of_ble_eq_true rfl, Nat.le_of_ble_eq_true rfl⟩)) (fun r_27 hr_27 => ?_)
      rcases hr_27 with ⟨rfl, hr_27⟩ | ⟨rfl, hr_27⟩
      · obtain ⟨fn, hfn1, hfn2, rfl⟩ := rg_of (by decide) (by decide) (hr_3.1)
        obtain ⟨en, hen1, hen2, rfl⟩ := rg_of (by decide) (by decide) (hr_3.2)
        obtain ⟨tn, htn1, htn2, rfl⟩ := rg_of (by decide) (by decide) (hr_14)
        obtain ⟨kn, hkn1, hkn2, rfl⟩ := rg_of (by decide) (by omega) (hr_27)
        refine nv_if_eq (tgt := 37) hx hb dX3_join_30 (by decide) (by decide) (fun c_30 => absurd c_30 (by decide)) (fun c_30 => ?_)
        refine lv_iconst (v := nI 0) hx hb dX3_join_33 (by decide +kernel) ?_
        refine lv_goto (tgt := 38) hx hb dX3_join_34 (by decide) ?_
        refine va_put (D := dD) (ci := 3) (v := .int (nI 0)) (ty := .int) (C := RX3) (T := TX3) (N := 14) hx hb hts hinX3 tyX3 tyX3_ok nmX3 hown hK hP hD hS 0 rfl rfl 0 (by decide) (hts (.fieldLink RX3 37 "FeatureStoreModel" "thrown" "I") (by decide +kernel)) (fun _ h9 => h9) rfl (by decide +kernel) rfl rfl (Nat.le_of_ble_eq_true rfl) dX3_join_38 (fun H locs hP hD hS => ?_)
        have hP : va_P dD vwCl [(m0, .inr (3, [.int (nI 0), .int (nI (s_now σ)), .ref (a 0), .int (nI (s_n σ)), .ref (a 1), .ref (a 2), .ref (a 3), .ref (a 4), .int (nI (s_tk σ)), .ref (a 5), .int (nI (s_k σ)), .ref (a 6), .ref (a 7), .ref (a 8)])), (a 0, .inl (cI, 6, .inl (fun j => nI (s_lt σ j)))), (a 1, .inl (cI, 200, .inl (fun j => nI (s_pr σ j)))), (a 2, .inl (cI, 200, .inl (fun j => nI (s_ev σ j)))), (a 3, .inl (cI, 200, .inl (fun j => nI (s_ar σ j)))), (a 4, .inl (cI, 200, .inl (fun j => nI (s_vl σ j)))), (a 5, .inl (cI, 60, .inl (fun j => nI (s_cp σ j)))), (a 6, .inl (cI, 200, .inl (fun j => nI (s_sp σ j)))), (a 7, .inl (cI, 200, .inl (fun j => nI (s_sa σ j)))), (a 8, .inl (cI, 200, .inl (fun j => eN (s_sv σ j))))] H := hP
        have hD : va_D A [(m0, .inr (3, [.int (nI 0), .int (nI (s_now σ)), .ref (a 0), .int (nI (s_n σ)), .ref (a 1), .ref (a 2), .ref (a 3), .ref (a 4), .int (nI (s_tk σ)), .ref (a 5), .int (nI (s_k σ)), .ref (a 6), .ref (a 7), .ref (a 8)])), (a 0, .inl (cI, 6, .inl (fun j => nI (s_lt σ j)))), (a 1, .inl (cI, 200, .inl (fun j => nI (s_pr σ j)))), (a 2, .inl (cI, 200, .inl (fun j => nI (s_ev σ j)))), (a 3, .inl (cI, 200, .inl (fun j => nI (s_ar σ j)))), (a 4, .inl (cI, 200, .inl (fun j => nI (s_vl σ j)))), (a 5, .inl (cI, 60, .inl (fun j => nI (s_cp σ j)))), (a 6, .inl (cI, 200, .inl (fun j => nI (s_sp σ j)))), (a 7, .inl (cI, 200, .inl (fun j => nI (s_sa σ j)))), (a 8, .inl (cI, 200, .inl (fun j => eN (s_sv σ j))))] := hD
        refine lv_aload_n hx hb dX3_join_41 rfl (lv_at hl 0 rfl) ?_
        refine va_get (D := dD) (ci := 3) (v := .int (nI 0)) (C := RX3) (T := TX3) (N := 14) hx hb hts hinX3 hown hK hP 0 rfl rfl 0 (by decide) (hts (.fieldLink RX3 37 "FeatureStoreModel" "thrown" "I") (by decide +kernel)) (fun _ h9 => h9) rfl dX3_join_42 ?_
        refine nv_if_le (tgt := 52) hx hb dX3_join_45 (by decide) (by decide) (fun c_45 => ?_) (fun c_45 => absurd c_45 (by decide))
        refine lv_aload_n hx hb dX3_join_52 rfl (lv_at hl 0 rfl) ?_
        refine lv_iload_n hx hb dX3_join_53 rfl (lv_at hl 1 rfl) ?_
        refine lv_iload_n hx hb dX3_join_54 rfl (lv_at hl 2 rfl) ?_
        refine vp_callSi (va_Run.run (va_runS (As := [.int (nI fn), .int (nI en)]) (rest := [.ref m0]) ⟨hx, hb, hml, hown, hts⟩ (c_X3_pairOf l dD cI cR cS lo fn en) (va_cwS 2 hts gX3_join_X3_pairOf rfl rfl rfl (by decide +kernel) ⟨Nat.le_of_ble_eq_true rfl, Nat.le_of_ble_eq_true rfl⟩) (ePreS hE (hS.mono hAlo) trivial) rfl rfl hl.1 rfl (lv_room (Nat.le_of_ble_eq_true rfl)) dX3_join_55 ⟨Nat.le_of_ble_eq_true rfl, Nat.le_of_ble_eq_true rfl⟩)) (fun r_55 hr_55 => ?_)
        subst hr_55
        refine lv_iload_n hx hb dX3_join_58 rfl (lv_at hl 3 rfl) ?_
        refine lv_iload hx hb dX3_join_59 (lv_at hl 4 rfl) ?_
        refine vp_callSi (va_Run.run (va_runV (As := [.int (nI (10 * fn + en)), .int (nI tn), .int (nI kn)]) (rest := []) ⟨hx, hb, hml, hown, hts⟩ (c_X3_joins l dD cI cR cS lo m0 a 0 σ hI (10 * fn + en) (tn) (kn) (by omega) (by omega) (by omega)) (cwV 3 hts gX3_join_X3_joins rfl rfl rfl (by decide +kernel) ⟨Nat.le_of_ble_eq_true rfl, Nat.le_of_ble_eq_true rfl⟩) (ePreV hE (hS.mono hAlo) hP (k := 0) rfl rfl hP) rfl rfl hl.1 rfl (lv_room (Nat.le_of_ble_eq_true rfl)) dX3_join_61 ⟨Nat.le_of_ble_eq_true rfl, Nat.le_of_ble_eq_true rfl⟩)) (fun r_61 hr_61 => ?_)
        subst hr_61
        exact W.iret (v := eN (q_join σ (10 * fn + en) (tn) (kn))) hx hb hr (fun u9 hu9 hW => ⟨⟨eN (q_join σ (10 * fn + en) (tn) (kn)), (0, σ), rfl, Or.inl ⟨⟨hr_3, hr_14, hr_27⟩, trivial, rfl, by rw [plN, cl_nI (by omega), cl_nI (by omega), cl_nI (by omega), cl_nI (by omega)]⟩, by have h9 := hP; rw [← hu9] at h9; exact h9⟩, hS.F hu9⟩) hS.2.2 dX3_join_64
      · refine nv_if_eq (tgt := 37) hx hb dX3_join_30 (by decide) (by decide) (fun c_30 => ?_) (fun c_30 => absurd c_30 (by decide))
        refine lv_iconst (v := nI 1) hx hb dX3_join_37 (by decide +kernel) ?_
        refine va_put (D := dD) (ci := 3) (v := .int (nI 1)) (ty := .int) (C := RX3) (T := TX3) (N := 14) hx hb hts hinX3 tyX3 tyX3_ok nmX3 hown hK hP hD hS 0 rfl rfl 0 (by decide) (hts (.fieldLink RX3 37 "FeatureStoreModel" "thrown" "I") (by decide +kernel)) (fun _ h9 => h9) rfl (by decide +kernel) rfl rfl (Nat.le_of_ble_eq_true rfl) dX3_join_38 (fun H locs hP hD hS => ?_)
        have hP : va_P dD vwCl [(m0, .inr (3, [.int (nI 1), .int (nI (s_now σ)), .ref (a 0), .int (nI (s_n σ)), .ref (a 1), .ref (a 2), .ref (a 3), .ref (a 4), .int (nI (s_tk σ)), .ref (a 5), .int (nI (s_k σ)), .ref (a 6), .ref (a 7), .ref (a 8)])), (a 0, .inl (cI, 6, .inl (fun j => nI (s_lt σ j)))), (a 1, .inl (cI, 200, .inl (fun j => nI (s_pr σ j)))), (a 2, .inl (cI, 200, .inl (fun j => nI (s_ev σ j)))), (a 3, .inl (cI, 200, .inl (fun j => nI (s_ar σ j)))), (a 4, .inl (cI, 200, .inl (fun j => nI (s_vl σ j)))), (a 5, .inl (cI, 60, .inl (fun j => nI (s_cp σ j)))), (a 6, .inl (cI, 200, .inl (fun j => nI (s_sp σ j)))), (a 7, .inl (cI, 200, .inl (fun j => nI (s_sa σ j)))), (a 8, .inl (cI, 200, .inl (fun j => eN (s_sv σ j))))] H := hP
        have hD : va_D A [(m0, .inr (3, [.int (nI 1), .int (nI (s_now σ)), .ref (a 0), .int (nI (s_n σ)), .ref (a 1), .ref (a 2), .ref (a 3), .ref (a 4), .int (nI (s_tk σ)), .ref (a 5), .int (nI (s_k σ)), .ref (a 6), .ref (a 7), .ref (a 8)])), (a 0, .inl (cI, 6, .inl (fun j => nI (s_lt σ j)))), (a 1, .inl (cI, 200, .inl (fun j => nI (s_pr σ j)))), (a 2, .inl (cI, 200, .inl (fun j => nI (s_ev σ j)))), (a 3, .inl (cI, 200, .inl (fun j => nI (s_ar σ j)))), (a 4, .inl (cI, 200, .inl (fun j => nI (s_vl σ j)))), (a 5, .inl (cI, 60, .inl (fun j => nI (s_cp σ j)))), (a 6, .inl (cI, 200, .inl (fun j => nI (s_sp σ j)))), (a 7, .inl (cI, 200, .inl (fun j => nI (s_sa σ j)))), (a 8, .inl (cI, 200, .inl (fun j => eN (s_sv σ j))))] := hD
        refine lv_aload_n hx hb dX3_join_41 rfl (lv_at hl 0 rfl) ?_
        refine va_get (D := dD) (ci := 3) (v := .int (nI 1)) (C := RX3) (T := TX3) (N := 14) hx hb hts hinX3 hown hK hP 0 rfl rfl 0 (by decide) (hts (.fieldLink RX3 37 "FeatureStoreModel" "thrown" "I") (by decide +kernel)) (fun _ h9 => h9) rfl dX3_join_42 ?_
        refine nv_if_le (tgt := 52) hx hb dX3_join_45 (by decide) (by decide) (fun c_45 => absurd c_45 (by decide)) (fun c_45 => ?_)
        refine lv_iconst (v := nI 0) hx hb dX3_join_48 (by decide +kernel) ?_
        refine lv_goto (tgt := 64) hx hb dX3_join_49 (by decide) ?_
        exact W.iret (v := nI 0) hx hb hr (fun u9 hu9 hW => ⟨⟨nI 0, (1, σ), rfl, Or.inr (Or.inl ⟨fun h => hr_27 h.2.2, rfl⟩), by have h9 := hP; rw [← hu9] at h9; exact h9⟩, hS.F hu9⟩) hS.2.2 dX3_join_64
    · refine nv_if_eq (tgt := 37) hx hb dX3_join_17 (by decide) (by decide) (fun c_17 => ?_) (fun c_17 => absurd c_17 (by decide))
      refine lv_iconst (v := nI 1) hx hb dX3_join_37 (by decide +kernel) ?_
      refine va_put (D := dD) (ci := 3) (v := .int (nI 1)) (ty := .int) (C := RX3) (T := TX3) (N := 14) hx hb hts hinX3 tyX3 tyX3_ok nmX3 hown hK hP hD hS 0 rfl rfl 0 (by decide) (hts (.fieldLink RX3 37 "FeatureStoreModel" "thrown" "I") (by decide +kernel)) (fun _ h9 => h9) rfl (by decide +kernel) rfl rfl (Nat.le_of_ble_eq_true rfl) dX3_join_38 (fun H locs hP hD hS => ?_)
      have hP : va_P dD vwCl [(m0, .inr (3, [.int (nI 1), .int (nI (s_now σ)), .ref (a 0), .int (nI (s_n σ)), .ref (a 1), .ref (a 2), .ref (a 3), .ref (a 4), .int (nI (s_tk σ)), .ref (a 5), .int (nI (s_k σ)), .ref (a 6), .ref (a 7), .ref (a 8)])), (a 0, .inl (cI, 6, .inl (fun j => nI (s_lt σ j)))), (a 1, .inl (cI, 200, .inl (fun j => nI (s_pr σ j)))), (a 2, .inl (cI, 200, .inl (fun j => nI (s_ev σ j)))), (a 3, .inl (cI, 200, .inl (fun j => nI (s_ar σ j)))), (a 4, .inl (cI, 200, .inl (fun j => nI (s_vl σ j)))), (a 5, .inl (cI, 60, .inl (fun j => nI (s_cp σ j)))), (a 6, .inl (cI, 200, .inl (fun j => nI (s_sp σ j)))), (a 7, .inl (cI, 200, .inl (fun j => nI (s_sa σ j)))), (a 8, .inl (cI, 200, .inl (fun j => eN (s_sv σ j))))] H := hP
      have hD : va_D A [(m0, .inr (3, [.int (nI 1), .int (nI (s_now σ)), .ref (a 0), .int (nI (s_n σ)), .ref (a 1), .ref (a 2), .ref (a 3), .ref (a 4), .int (nI (s_tk σ)), .ref (a 5), .int (nI (s_k σ)), .ref (a 6), .ref (a 7), .ref (a 8)])), (a 0, .inl (cI, 6, .inl (fun j => nI (s_lt σ j)))), (a 1, .inl (cI, 200, .inl (fun j => nI (s_pr σ j)))), (a 2, .inl (cI, 200, .inl (fun j => nI (s_ev σ j)))), (a 3, .inl (cI, 200, .inl (fun j => nI (s_ar σ j)))), (a 4, .inl (cI, 200, .inl (fun j => nI (s_vl σ j)))), (a 5, .inl (cI, 60, .inl (fun j => nI (s_cp σ j)))), (a 6, .inl (cI, 200, .inl (fun j => nI (s_sp σ j)))), (a 7, .inl (cI, 200, .inl (fun j => nI (s_sa σ j)))), (a 8, .inl (cI, 200, .inl (fun j => eN (s_sv σ j))))] := hD
      refine lv_aload_n hx hb dX3_join_41 rfl (lv_at hl 0 rfl) ?_
      refine va_get (D := dD) (ci := 3) (v := .int (nI 1)) (C := RX3) (T := TX3) (N := 14) hx hb hts hinX3 hown hK hP 0 rfl rfl 0 (by decide) (hts (.fieldLink RX3 37 "FeatureStoreModel" "thrown" "I") (by decide +kernel)) (fun _ h9 => h9) rfl dX3_join_42 ?_
      refine nv_if_le (tgt := 52) hx hb dX3_join_45 (by decide) (by decide) (fun c_45 => absurd c_45 (by decide)) (fun c_45 => ?_)
      refine lv_iconst (v := nI 0) hx hb dX3_join_48 (by decide +kernel) ?_
      refine lv_goto (tgt := 64) hx hb dX3_join_49 (by decide) ?_
      exact W.iret (v := nI 0) hx hb hr (fun u9 hu9 hW => ⟨⟨nI 0, (1, σ), rfl, Or.inr (Or.inl ⟨fun h => hr_14 h.2.1, rfl⟩), by have h9 := hP; rw [← hu9] at h9; exact h9⟩, hS.F hu9⟩) hS.2.2 dX3_join_64
  · refine nv_if_eq (tgt := 37) hx hb dX3_join_6 (by decide) (by decide) (fun c_6 => ?_) (fun c_6 => absurd c_6 (by decide))
    refine lv_iconst (v := nI 1) hx hb dX3_join_37 (by decide +kernel) ?_
    refine va_put (D := dD) (ci := 3) (v := .int (nI 1)) (ty := .int) (C := RX3) (T := TX3) (N := 14) hx hb hts hinX3 tyX3 tyX3_ok nmX3 hown hK hP hD hS 0 rfl rfl 0 (by decide) (hts (.fieldLink RX3 37 "FeatureStoreModel" "thrown" "I") (by decide +kernel)) (fun _ h9 => h9) rfl (by decide +kernel) rfl rfl (Nat.le_of_ble_eq_true rfl) dX3_join_38 (fun H locs hP hD hS => ?_)
    have hP : va_P dD vwCl [(m0, .inr (3, [.int (nI 1), .int (nI (s_now σ)), .ref (a 0), .int (nI (s_n σ)), .ref (a 1), .ref (a 2), .ref (a 3), .ref (a 4), .int (nI (s_tk σ)), .ref (a 5), .int (nI (s_k σ)), .ref (a 6), .ref (a 7), .ref (a 8)])), (a 0, .inl (cI, 6, .inl (fun j => nI (s_lt σ j)))), (a 1, .inl (cI, 200, .inl (fun j => nI (s_pr σ j)))), (a 2, .inl (cI, 200, .inl (fun j => nI (s_ev σ j)))), (a 3, .inl (cI, 200, .inl (fun j => nI (s_ar σ j)))), (a 4, .inl (cI, 200, .inl (fun j => nI (s_vl σ j)))), (a 5, .inl (cI, 60, .inl (fun j => nI (s_cp σ j)))), (a 6, .inl (cI, 200, .inl (fun j => nI (s_sp σ j)))), (a 7, .inl (cI, 200, .inl (fun j => nI (s_sa σ j)))), (a 8, .inl (cI, 200, .inl (fun j => eN (s_sv σ j))))] H := hP
    have hD : va_D A [(m0, .inr (3, [.int (nI 1), .int (nI (s_now σ)), .ref (a 0), .int (nI (s_n σ)), .ref (a 1), .ref (a 2), .ref (a 3), .ref (a 4), .int (nI (s_tk σ)), .ref (a 5), .int (nI (s_k σ)), .ref (a 6), .ref (a 7), .ref (a 8)])), (a 0, .inl (cI, 6, .inl (fun j => nI (s_lt σ j)))), (a 1, .inl (cI, 200, .inl (fun j => nI (s_pr σ j)))), (a 2, .inl (cI, 200, .inl (fun j => nI (s_ev σ j)))), (a 3, .inl (cI, 200, .inl (fun j => nI (s_ar σ j)))), (a 4, .inl (cI, 200, .inl (fun j => nI (s_vl σ j)))), (a 5, .inl (cI, 60, .inl (fun j => nI (s_cp σ j)))), (a 6, .inl (cI, 200, .inl (fun j => nI (s_sp σ j)))), (a 7, .inl (cI, 200, .inl (fun j => nI (s_sa σ j)))), (a 8, .inl (cI, 200, .inl (fun j => eN (s_sv σ j))))] := hD
    refine lv_aload_n hx hb dX3_join_41 rfl (lv_at hl 0 rfl) ?_
    refine va_get (D := dD) (ci := 3) (v := .int (nI 1)) (C := RX3) (T := TX3) (N := 14) hx hb hts hinX3 hown hK hP 0 rfl rfl 0 (by decide) (hts (.fieldLink RX3 37 "FeatureStoreModel" "thrown" "I") (by decide +kernel)) (fun _ h9 => h9) rfl dX3_join_42 ?_
    refine nv_if_le (tgt := 52) hx hb dX3_join_45 (by decide) (by decide) (fun c_45 => absurd c_45 (by decide)) (fun c_45 => ?_)
    refine lv_iconst (v := nI 0) hx hb dX3_join_48 (by decide +kernel) ?_
    refine lv_goto (tgt := 64) hx hb dX3_join_49 (by decide) ?_
    exact W.iret (v := nI 0) hx hb hr (fun u9 hu9 hW => ⟨⟨nI 0, (1, σ), rfl, Or.inr (Or.inl ⟨fun h => hr_3 h.1, rfl⟩), by have h9 := hP; rw [← hu9] at h9; exact h9⟩, hS.F hu9⟩) hS.2.2 dX3_join_64

set_option maxHeartbeats 4000000 in
set_option maxRecDepth 100000 in
theorem c_X3_window (l : Launch) (dD : va_G) (cI cR cS : ClassId) (lo : Nat) (sz : Nat) (hlo : lo ≤ sz) (m0 : Nat) (a : Nat → Nat) (th : Nat) (σ : St) (hI : sI σ) (f e x y : Int32) : Met l yX3_window wsX3_window ({ frames := 2, cells := 0, slots := 0, locals := 47 }) (ePc dD cI cR cS lo [.ref m0, .int f, .int e, .int x, .int y] (fun H => H.size = sz ∧ va_P dD vwCl (mW cI m0 a th σ) H ∧ va_D (fun q => lo ≤ q) (mW cI m0 a th σ))) (va_Qi (fun (r : Int32) (u : Nat × St) => R3 (okP f e ∧ rg x 0 10000 ∧ rg y (cl x) 10000) True σ σ (nI (q_sum σ (plN f e) (cl x) (cl y) (s_n σ))) r u) (fun u t => va_P dD vwCl (mW cI m0 a u.1 u.2) t.heap) (va_A (mW cI m0 a th σ) sz)) 0 0 (va_A (mW cI m0 a th σ) sz) := by
  refine Met.ofW (cc := cX3_window) (maxL := 5) (ret := (some .int)) (by decide) rfl ?_
  intro p e_ s m args below meth c s₁ B hml hv
  obtain ⟨rfl, hE, hsz, hP, hD0⟩ := hv
  have hx := B.exec
  have hb := B.bytes
  have hr := B.returns
  have hts := atoms_spec (ws := wsX3_window) B.pre
  have hown : s.vm.findClass RX3 = some m.cls := findClass_of_methodNamed B.named
  have hlocks := B.notSynchronized
  have hK := hE.1.1
  have hinX3 : ∀ w ∈ u_ws RX3 TX3 14, w ∈ wsX3_window := by decide +kernel
  subst hsz
  have hD := hD0.self (sz := s.heap.size)
  have hAlo : ∀ q, va_A (mW cI m0 a th σ) s.heap.size q → lo ≤ q := eA_lo hD0 hlo
  generalize hAe : va_A (mW cI m0 a th σ) s.heap.size = A at hD hAlo ⊢
  have hA : ∀ q : Nat, s.heap.size ≤ q → A q := fun q h => by rw [← hAe]; exact Or.inr h
  have hS : va_S A s.heap s.heap [] := va_S.rf
  have hP : va_P dD vwCl (mW cI m0 a th σ) s.heap := hP
  obtain ⟨i_now, i_n, i_tk, i_k, i_lt, i_row, i_cp, i_srv⟩ := id hI
  have hl := lv_entry ([.ref m0, .int f, .int e, .int x, .int y]) (n := 5) (Nat.le_of_ble_eq_true rfl)
  rw [lg_entry_eq]
  generalize (lg_sl ([.ref m0, .int f, .int e, .int x, .int y]) ++ List.replicate (5 - (lg_sl ([.ref m0, .int f, .int e, .int x, .int y])).length) Slot.unset).toArray = ls at hl ⊢
  have hl : lv_has ls 5 [(0, .ref m0), (1, .int f), (2, .int e), (3, .int x), (4, .int y)] := hl
  refine lv_aload_n hx hb dX3_window_0 rfl (lv_at hl 0 rfl) ?_
  refine lv_iload_n hx hb dX3_window_1 rfl (lv_at hl 1 rfl) ?_
  refine lv_iload_n hx hb dX3_window_2 rfl (lv_at hl 2 rfl) ?_
  refine vp_callSi (va_Run.run (va_runS (As := [.int f, .int e]) (rest := [.ref m0]) ⟨hx, hb, hml, hown, hts⟩ (c_X3_isPair l dD cI cR cS lo f e) (va_cwS 2 hts gX3_window_X3_isPair rfl rfl rfl (by decide +kernel) ⟨Nat.le_of_ble_eq_true rfl, Nat.le_of_ble_eq_true rfl⟩) (ePreS hE (hS.mono hAlo) trivial) rfl rfl hl.1 rfl (lv_room (Nat.le_of_ble_eq_true rfl)) dX3_window_3 ⟨Nat.le_of_ble_eq_true rfl, Nat.le_of_ble_eq_true rfl⟩)) (fun r_3 hr_3 => ?_)
  rcases hr_3 with ⟨rfl, hr_3⟩ | ⟨rfl, hr_3⟩
  · refine nv_if_eq (tgt := 36) hx hb dX3_window_6 (by decide) (by decide) (fun c_6 => absurd c_6 (by decide)) (fun c_6 => ?_)
    refine lv_iload_n hx hb dX3_window_9 rfl (lv_at hl 3 rfl) ?_
    refine lv_iconst (v := nI 0) hx hb dX3_window_10 (by decide +kernel) ?_
    refine lv_sipush (v := nI 10000) hx hb dX3_window_11 (by decide +kernel) ?_
    refine vp_callSi (va_Run.run (va_runS (As := [.int x, .int (nI 0), .int (nI 10000)]) (rest := [.ref m0]) ⟨hx, hb, hml, hown, hts⟩ (c_X3_in l dD cI cR cS lo x (nI 0) (nI 10000)) (va_cwS 3 hts gX3_window_X3_in rfl rfl rfl (by decide +kernel) ⟨Nat.le_of_ble_eq_true rfl, Nat.le_of_ble_eq_true rfl⟩) (ePreS hE (hS.mono hAlo) trivial) rfl rfl hl.1 rfl (lv_room (Nat.le_of_ble_eq_true rfl)) dX3_window_14 ⟨Nat.le_of_ble_eq_true rfl, Nat.le_of_ble_eq_true rfl⟩)) (fun r_14 hr_14 => ?_)
    rcases hr_14 with ⟨rfl, hr_14⟩ | ⟨rfl, hr_14⟩
    · obtain ⟨xn, hxn1, hxn2, rfl⟩ := rg_of (by decide) (by decide) (hr_14)
      refine nv_if_eq (tgt := 36) hx hb dX3_window_17 (by decide) (by decide) (fun c_17 => absurd c_17 (by decide)) (fun c_17 => ?_)
      refine lv_iload hx hb dX3_window_20 (lv_at hl 4 rfl) ?_
      refine lv_iload_n hx hb dX3_window_22 rfl (lv_at hl 3 rfl) ?_
      refine lv_sipush (v := nI 10000) hx hb dX3_window_23 (by decide +kernel) ?_
      refine vp_callSi (va_Run.run (va_runS (As := [.int y, .int (nI xn), .int (nI 10000)]) (rest := [.ref m0]) ⟨hx, hb, hml, hown, hts⟩ (c_X3_in l dD cI cR cS lo y (nI xn) (nI 10000)) (va_cwS 3 hts gX3_window_X3_in rfl rfl rfl (by decide +kernel) ⟨Nat.le_of_ble_eq_true rfl, Nat.le_of_ble_eq_true rfl⟩) (ePreS hE (hS.mono hAlo) trivial) rfl rfl hl.1 rfl (lv_room (Nat.le_of_ble_eq_true rfl)) dX3_window_26 ⟨Nat.le_of_ble_eq_true rfl, Nat.le_of_ble_eq_true rfl⟩)) (fun r_26 hr_26 => ?_)
      rcases hr_26 with ⟨rfl, hr_26⟩ | ⟨rfl, hr_26⟩
      · obtain ⟨fn, hfn1, hfn2, rfl⟩ := rg_of (by decide) (by decide) (hr_3.1)
        obtain ⟨en, hen1, hen2, rfl⟩ := rg_of (by decide) (by decide) (hr_3.2)
        obtain ⟨yn, hyn1, hyn2, rfl⟩ := rg_of (by omega) (by decide) (hr_26)
        refine nv_if_eq (tgt := 36) hx hb dX3_window_29 (by decide) (by decide) (fun c_29 => absurd c_29 (by decide)) (fun c_29 => ?_)
        refine lv_iconst (v := nI 0) hx hb dX3_window_32 (by decide +kernel) ?_
        refine lv_goto (tgt := 37) hx hb dX3_window_33 (by decide) ?_
        refine va_put (D := dD) (ci := 3) (v := .int (nI 0)) (ty := .int) (C := RX3) (T := TX3) (N := 14) hx hb hts hinX3 tyX3 tyX3_ok nmX3 hown hK hP hD hS 0 rfl rfl 0 (by decide) (hts (.fieldLink RX3 37 "FeatureStoreModel" "thrown" "I") (by decide +kernel)) (fun _ h9 => h9) rfl (by decide +kernel) rfl rfl (Nat.le_of_ble_eq_true rfl) dX3_window_37 (fun H locs hP hD hS => ?_)
        have hP : va_P dD vwCl [(m0, .inr (3, [.int (nI 0), .int (nI (s_now σ)), .ref (a 0), .int (nI (s_n σ)), .ref (a 1), .ref (a 2), .ref (a 3), .ref (a 4), .int (nI (s_tk σ)), .ref (a 5), .int (nI (s_k σ)), .ref (a 6), .ref (a 7), .ref (a 8)])), (a 0, .inl (cI, 6, .inl (fun j => nI (s_lt σ j)))), (a 1, .inl (cI, 200, .inl (fun j => nI (s_pr σ j)))), (a 2, .inl (cI, 200, .inl (fun j => nI (s_ev σ j)))), (a 3, .inl (cI, 200, .inl (fun j => nI (s_ar σ j)))), (a 4, .inl (cI, 200, .inl (fun j => nI (s_vl σ j)))), (a 5, .inl (cI, 60, .inl (fun j => nI (s_cp σ j)))), (a 6, .inl (cI, 200, .inl (fun j => nI (s_sp σ j)))), (a 7, .inl (cI, 200, .inl (fun j => nI (s_sa σ j)))), (a 8, .inl (cI, 200, .inl (fun j => eN (s_sv σ j))))] H := hP
        have hD : va_D A [(m0, .inr (3, [.int (nI 0), .int (nI (s_now σ)), .ref (a 0), .int (nI (s_n σ)), .ref (a 1), .ref (a 2), .ref (a 3), .ref (a 4), .int (nI (s_tk σ)), .ref (a 5), .int (nI (s_k σ)), .ref (a 6), .ref (a 7), .ref (a 8)])), (a 0, .inl (cI, 6, .inl (fun j => nI (s_lt σ j)))), (a 1, .inl (cI, 200, .inl (fun j => nI (s_pr σ j)))), (a 2, .inl (cI, 200, .inl (fun j => nI (s_ev σ j)))), (a 3, .inl (cI, 200, .inl (fun j => nI (s_ar σ j)))), (a 4, .inl (cI, 200, .inl (fun j => nI (s_vl σ j)))), (a 5, .inl (cI, 60, .inl (fun j => nI (s_cp σ j)))), (a 6, .inl (cI, 200, .inl (fun j => nI (s_sp σ j)))), (a 7, .inl (cI, 200, .inl (fun j => nI (s_sa σ j)))), (a 8, .inl (cI, 200, .inl (fun j => eN (s_sv σ j))))] := hD
        refine lv_aload_n hx hb dX3_window_40 rfl (lv_at hl 0 rfl) ?_
        refine va_get (D := dD) (ci := 3) (v := .int (nI 0)) (C := RX3) (T := TX3) (N := 14) hx hb hts hinX3 hown hK hP 0 rfl rfl 0 (by decide) (hts (.fieldLink RX3 37 "FeatureStoreModel" "thrown" "I") (by decide +kernel)) (fun _ h9 => h9) rfl dX3_window_41 ?_
        refine nv_if_le (tgt := 51) hx hb dX3_window_44 (by decide) (by decide) (fun c_44 => ?_) (fun c_44 => absurd c_44 (by decide))
        refine lv_aload_n hx hb dX3_window_51 rfl (lv_at hl 0 rfl) ?_
        refine lv_iload_n hx hb dX3_window_52 rfl (lv_at hl 1 rfl) ?_
        refine lv_iload_n hx hb dX3_window_53 rfl (lv_at hl 2 rfl) ?_
        refine vp_callSi (va_Run.run (va_runS (As := [.int (nI fn), .int (nI en)]) (rest := [.ref m0]) ⟨hx, hb, hml, hown, hts⟩ (c_X3_pairOf l dD cI cR cS lo fn en) (va_cwS 2 hts gX3_window_X3_pairOf rfl rfl rfl (by decide +kernel) ⟨Nat.le_of_ble_eq_true rfl, Nat.le_of_ble_eq_true rfl⟩) (ePreS hE (hS.mono hAlo) trivial) rfl rfl hl.1 rfl (lv_room (Nat.le_of_ble_eq_true rfl)) dX3_window_54 ⟨Nat.le_of_ble_eq_true rfl, Nat.le_of_ble_eq_true rfl⟩)) (fun r_54 hr_54 => ?_)
        subst hr_54
        refine lv_iload_n hx hb dX3_window_57 rfl (lv_at hl 3 rfl) ?_
        refine lv_iload hx hb dX3_window_58 (lv_at hl 4 rfl) ?_
        refine vp_callSi (va_Run.run (va_runV (As := [.int (nI (10 * fn + en)), .int (nI xn), .int (nI yn)]) (rest := []) ⟨hx, hb, hml, hown, hts⟩ (c_X3_sums l dD cI cR cS lo m0 a 0 σ hI (10 * fn + en) (xn) (yn) (by omega) (by omega) (by omega)) (cwV 3 hts gX3_window_X3_sums rfl rfl rfl (by decide +kernel) ⟨Nat.le_of_ble_eq_true rfl, Nat.le_of_ble_eq_true rfl⟩) (ePreV hE (hS.mono hAlo) hP (k := 0) rfl rfl hP) rfl rfl hl.1 rfl (lv_room (Nat.le_of_ble_eq_true rfl)) dX3_window_60 ⟨Nat.le_of_ble_eq_true rfl, Nat.le_of_ble_eq_true rfl⟩)) (fun r_60 hr_60 => ?_)
        subst hr_60
        exact W.iret (v := nI (q_sum σ (10 * fn + en) (xn) (yn) (s_n σ))) hx hb hr (fun u9 hu9 hW => ⟨⟨nI (q_sum σ (10 * fn + en) (xn) (yn) (s_n σ)), (0, σ), rfl, Or.inl ⟨⟨hr_3, hr_14, by rw [cl_nI (n := xn) (by omega)]; exact hr_26⟩, trivial, rfl, by rw [plN, cl_nI (by omega), cl_nI (by omega), cl_nI (by omega), cl_nI (by omega)]⟩, by have h9 := hP; rw [← hu9] at h9; exact h9⟩, hS.F hu9⟩) hS.2.2 dX3_window_63
      · refine nv_if_eq (tgt := 36) hx hb dX3_window_29 (by decide) (by decide) (fun c_29 => ?_) (fun c_29 => absurd c_29 (by decide))
        refine lv_iconst (v := nI 1) hx hb dX3_window_36 (by decide +kernel) ?_
        refine va_put (D := dD) (ci := 3) (v := .int (nI 1)) (ty := .int) (C := RX3) (T := TX3) (N := 14) hx hb hts hinX3 tyX3 tyX3_ok nmX3 hown hK hP hD hS 0 rfl rfl 0 (by decide) (hts (.fieldLink RX3 37 "FeatureStoreModel" "thrown" "I") (by decide +kernel)) (fun _ h9 => h9) rfl (by decide +kernel) rfl rfl (Nat.le_of_ble_eq_true rfl) dX3_window_37 (fun H locs hP hD hS => ?_)
        have hP : va_P dD vwCl [(m0, .inr (3, [.int (nI 1), .int (nI (s_now σ)), .ref (a 0), .int (nI (s_n σ)), .ref (a 1), .ref (a 2), .ref (a 3), .ref (a 4), .int (nI (s_tk σ)), .ref (a 5), .int (nI (s_k σ)), .ref (a 6), .ref (a 7), .ref (a 8)])), (a 0, .inl (cI, 6, .inl (fun j => nI (s_lt σ j)))), (a 1, .inl (cI, 200, .inl (fun j => nI (s_pr σ j)))), (a 2, .inl (cI, 200, .inl (fun j => nI (s_ev σ j)))), (a 3, .inl (cI, 200, .inl (fun j => nI (s_ar σ j)))), (a 4, .inl (cI, 200, .inl (fun j => nI (s_vl σ j)))), (a 5, .inl (cI, 60, .inl (fun j => nI (s_cp σ j)))), (a 6, .inl (cI, 200, .inl (fun j => nI (s_sp σ j)))), (a 7, .inl (cI, 200, .inl (fun j => nI (s_sa σ j)))), (a 8, .inl (cI, 200, .inl (fun j => eN (s_sv σ j))))] H := hP
        have hD : va_D A [(m0, .inr (3, [.int (nI 1), .int (nI (s_now σ)), .ref (a 0), .int (nI (s_n σ)), .ref (a 1), .ref (a 2), .ref (a 3), .ref (a 4), .int (nI (s_tk σ)), .ref (a 5), .int (nI (s_k σ)), .ref (a 6), .ref (a 7), .ref (a 8)])), (a 0, .inl (cI, 6, .inl (fun j => nI (s_lt σ j)))), (a 1, .inl (cI, 200, .inl (fun j => nI (s_pr σ j)))), (a 2, .inl (cI, 200, .inl (fun j => nI (s_ev σ j)))), (a 3, .inl (cI, 200, .inl (fun j => nI (s_ar σ j)))), (a 4, .inl (cI, 200, .inl (fun j => nI (s_vl σ j)))), (a 5, .inl (cI, 60, .inl (fun j => nI (s_cp σ j)))), (a 6, .inl (cI, 200, .inl (fun j => nI (s_sp σ j)))), (a 7, .inl (cI, 200, .inl (fun j => nI (s_sa σ j)))), (a 8, .inl (cI, 200, .inl (fun j => eN (s_sv σ j))))] := hD
        refine lv_aload_n hx hb dX3_window_40 rfl (lv_at hl 0 rfl) ?_
        refine va_get (D := dD) (ci := 3) (v := .int (nI 1)) (C := RX3) (T := TX3) (N := 14) hx hb hts hinX3 hown hK hP 0 rfl rfl 0 (by decide) (hts (.fieldLink RX3 37 "FeatureStoreModel" "thrown" "I") (by decide +kernel)) (fun _ h9 => h9) rfl dX3_window_41 ?_
        refine nv_if_le (tgt := 51) hx hb dX3_window_44 (by decide) (by decide) (fun c_44 => absurd c_44 (by decide)) (fun c_44 => ?_)
        refine lv_iconst (v := nI 0) hx hb dX3_window_47 (by decide +kernel) ?_
        refine lv_goto (tgt := 63) hx hb dX3_window_48 (by decide) ?_
        exact W.iret (v := nI 0) hx hb hr (fun u9 hu9 hW => ⟨⟨nI 0, (1, σ), rfl, Or.inr (Or.inl ⟨fun h => hr_26 (by have h9 := h.2.2; rw [cl_nI (by omega)] at h9; exact h9), rfl⟩), by have h9 := hP; rw [← hu9] at h9; exact h9⟩, hS.F hu9⟩) hS.2.2 dX3_window_63
    · refine nv_if_eq (tgt := 36) hx hb dX3_window_17 (by decide) (by decide) (fun c_17 => ?_) (fun c_17 => absurd c_17 (by decide))
      refine lv_iconst (v := nI 1) hx hb dX3_window_36 (by decide +kernel) ?_
      refine va_put (D := dD) (ci := 3) (v := .int (nI 1)) (ty := .int) (C := RX3) (T := TX3) (N := 14) hx hb hts hinX3 tyX3 tyX3_ok nmX3 hown hK hP hD hS 0 rfl rfl 0 (by decide) (hts (.fieldLink RX3 37 "FeatureStoreModel" "thrown" "I") (by decide +kernel)) (fun _ h9 => h9) rfl (by decide +kernel) rfl rfl (Nat.le_of_ble_eq_true rfl) dX3_window_37 (fun H locs hP hD hS => ?_)
      have hP : va_P dD vwCl [(m0, .inr (3, [.int (nI 1), .int (nI (s_now σ)), .ref (a 0), .int (nI (s_n σ)), .ref (a 1), .ref (a 2), .ref (a 3), .ref (a 4), .int (nI (s_tk σ)), .ref (a 5), .int (nI (s_k σ)), .ref (a 6), .ref (a 7), .ref (a 8)])), (a 0, .inl (cI, 6, .inl (fun j => nI (s_lt σ j)))), (a 1, .inl (cI, 200, .inl (fun j => nI (s_pr σ j)))), (a 2, .inl (cI, 200, .inl (fun j => nI (s_ev σ j)))), (a 3, .inl (cI, 200, .inl (fun j => nI (s_ar σ j)))), (a 4, .inl (cI, 200, .inl (fun j => nI (s_vl σ j)))), (a 5, .inl (cI, 60, .inl (fun j => nI (s_cp σ j)))), (a 6, .inl (cI, 200, .inl (fun j => nI (s_sp σ j)))), (a 7, .inl (cI, 200, .inl (fun j => nI (s_sa σ j)))), (a 8, .inl (cI, 200, .inl (fun j => eN (s_sv σ j))))] H := hP
      have hD : va_D A [(m0, .inr (3, [.int (nI 1), .int (nI (s_now σ)), .ref (a 0), .int (nI (s_n σ)), .ref (a 1), .ref (a 2), .ref (a 3), .ref (a 4), .int (nI (s_tk σ)), .ref (a 5), .int (nI (s_k σ)), .ref (a 6), .ref (a 7), .ref (a 8)])), (a 0, .inl (cI, 6, .inl (fun j => nI (s_lt σ j)))), (a 1, .inl (cI, 200, .inl (fun j => nI (s_pr σ j)))), (a 2, .inl (cI, 200, .inl (fun j => nI (s_ev σ j)))), (a 3, .inl (cI, 200, .inl (fun j => nI (s_ar σ j)))), (a 4, .inl (cI, 200, .inl (fun j => nI (s_vl σ j)))), (a 5, .inl (cI, 60, .inl (fun j => nI (s_cp σ j)))), (a 6, .inl (cI, 200, .inl (fun j => nI (s_sp σ j)))), (a 7, .inl (cI, 200, .inl (fun j => nI (s_sa σ j)))), (a 8, .inl (cI, 200, .inl (fun j => eN (s_sv σ j))))] := hD
      refine lv_aload_n hx hb dX3_window_40 rfl (lv_at hl 0 rfl) ?_
      refine va_get (D := dD) (ci := 3) (v := .int (nI 1)) (C := RX3) (T := TX3) (N := 14) hx hb hts hinX3 hown hK hP 0 rfl rfl 0 (by decide) (hts (.fieldLink RX3 37 "FeatureStoreModel" "thrown" "I") (by decide +kernel)) (fun _ h9 => h9) rfl dX3_window_41 ?_
      refine nv_if_le (tgt := 51) hx hb dX3_window_44 (by decide) (by decide) (fun c_44 => absurd c_44 (by decide)) (fun c_44 => ?_)
      refine lv_iconst (v := nI 0) hx hb dX3_window_47 (by decide +kernel) ?_
      refine lv_goto (tgt := 63) hx hb dX3_window_48 (by decide) ?_
      exact W.iret (v := nI 0) hx hb hr (fun u9 hu9 hW => ⟨⟨nI 0, (1, σ), rfl, Or.inr (Or.inl ⟨fun h => hr_14 h.2.1, rfl⟩), by have h9 := hP; rw [← hu9] at h9; exact h9⟩, hS.F hu9⟩) hS.2.2 dX3_window_63
  · refine nv_if_eq (tgt := 36) hx hb dX3_window_6 (by decide) (by decide) (fun c_6 => ?_) (fun c_6 => absurd c_6 (by decide))
    refine lv_iconst (v := nI 1) hx hb dX3_window_36 (by decide +kernel) ?_
    refine va_put (D := dD) (ci := 3) (v := .int (nI 1)) (ty := .int) (C := RX3) (T := TX3) (N := 14) hx hb hts hinX3 tyX3 tyX3_ok nmX3 hown hK hP hD hS 0 rfl rfl 0 (by decide) (hts (.fieldLink RX3 37 "FeatureStoreModel" "thrown" "I") (by decide +kernel)) (fun _ h9 => h9) rfl (by decide +kernel) rfl rfl (Nat.le_of_ble_eq_true rfl) dX3_window_37 (fun H locs hP hD hS => ?_)
    have hP : va_P dD vwCl [(m0, .inr (3, [.int (nI 1), .int (nI (s_now σ)), .ref (a 0), .int (nI (s_n σ)), .ref (a 1), .ref (a 2), .ref (a 3), .ref (a 4), .int (nI (s_tk σ)), .ref (a 5), .int (nI (s_k σ)), .ref (a 6), .ref (a 7), .ref (a 8)])), (a 0, .inl (cI, 6, .inl (fun j => nI (s_lt σ j)))), (a 1, .inl (cI, 200, .inl (fun j => nI (s_pr σ j)))), (a 2, .inl (cI, 200, .inl (fun j => nI (s_ev σ j)))), (a 3, .inl (cI, 200, .inl (fun j => nI (s_ar σ j)))), (a 4, .inl (cI, 200, .inl (fun j => nI (s_vl σ j)))), (a 5, .inl (cI, 60, .inl (fun j => nI (s_cp σ j)))), (a 6, .inl (cI, 200, .inl (fun j => nI (s_sp σ j)))), (a 7, .inl (cI, 200, .inl (fun j => nI (s_sa σ j)))), (a 8, .inl (cI, 200, .inl (fun j => eN (s_sv σ j))))] H := hP
    have hD : va_D A [(m0, .inr (3, [.int (nI 1), .int (nI (s_now σ)), .ref (a 0), .int (nI (s_n σ)), .ref (a 1), .ref (a 2), .ref (a 3), .ref (a 4), .int (nI (s_tk σ)), .ref (a 5), .int (nI (s_k σ)), .ref (a 6), .ref (a 7), .ref (a 8)])), (a 0, .inl (cI, 6, .inl (fun j => nI (s_lt σ j)))), (a 1, .inl (cI, 200, .inl (fun j => nI (s_pr σ j)))), (a 2, .inl (cI, 200, .inl (fun j => nI (s_ev σ j)))), (a 3, .inl (cI, 200, .inl (fun j => nI (s_ar σ j)))), (a 4, .inl (cI, 200, .inl (fun j => nI (s_vl σ j)))), (a 5, .inl (cI, 60, .inl (fun j => nI (s_cp σ j)))), (a 6, .inl (cI, 200, .inl (fun j => nI (s_sp σ j)))), (a 7, .inl (cI, 200, .inl (fun j => nI (s_sa σ j)))), (a 8, .inl (cI, 200, .inl (fun j => eN (s_sv σ j))))] := hD
    refine lv_aload_n hx hb dX3_window_40 rfl (lv_at hl 0 rfl) ?_
    refine va_get (D := dD) (ci := 3) (v := .int (nI 1)) (C := RX3) (T := TX3) (N := 14) hx hb hts hinX3 hown hK hP 0 rfl rfl 0 (by decide) (hts (.fieldLink RX3 37 "FeatureStoreModel" "thrown" "I") (by decide +kernel)) (fun _ h9 => h9) rfl dX3_window_41 ?_
    refine nv_if_le (tgt := 51) hx hb dX3_window_44 (by decide) (by decide) (fun c_44 => absurd c_44 (by decide)) (fun c_44 => ?_)
    refine lv_iconst (v := nI 0) hx hb dX3_window_47 (by decide +kernel) ?_
    refine lv_goto (tgt := 63) hx hb dX3_window_48 (by decide) ?_
    exact W.iret (v := nI 0) hx hb hr (fun u9 hu9 hW => ⟨⟨nI 0, (1, σ), rfl, Or.inr (Or.inl ⟨fun h => hr_3 h.1, rfl⟩), by have h9 := hP; rw [← hu9] at h9; exact h9⟩, hS.F hu9⟩) hS.2.2 dX3_window_63

set_option maxHeartbeats 4000000 in
set_option maxRecDepth 100000 in
theorem c_X3_online (l : Launch) (dD : va_G) (cI cR cS : ClassId) (lo : Nat) (sz : Nat) (hlo : lo ≤ sz) (m0 : Nat) (a : Nat → Nat) (th : Nat) (σ : St) (hI : sI σ) (f e : Int32) : Met l yX3_online wsX3_online ({ frames := 2, cells := 0, slots := 0, locals := 43 }) (ePc dD cI cR cS lo [.ref m0, .int f, .int e] (fun H => H.size = sz ∧ va_P dD vwCl (mW cI m0 a th σ) H ∧ va_D (fun q => lo ≤ q) (mW cI m0 a th σ))) (va_Qi (fun (r : Int32) (u : Nat × St) => R3 (okP f e) True σ σ (eN (q_fr σ (s_cp σ (plN f e)) (s_now σ))) r u) (fun u t => va_P dD vwCl (mW cI m0 a u.1 u.2) t.heap) (va_A (mW cI m0 a th σ) sz)) 0 0 (va_A (mW cI m0 a th σ) sz) := by
  refine Met.ofW (cc := cX3_online) (maxL := 3) (ret := (some .int)) (by decide) rfl ?_
  intro p e_ s m args below meth c s₁ B hml hv
  obtain ⟨rfl, hE, hsz, hP, hD0⟩ := hv
  have hx := B.exec
  have hb := B.bytes
  have hr := B.returns
  have hts := atoms_spec (ws := wsX3_online) B.pre
  have hown : s.vm.findClass RX3 = some m.cls := findClass_of_methodNamed B.named
  have hlocks := B.notSynchronized
  have hK := hE.1.1
  have hinX3 : ∀ w ∈ u_ws RX3 TX3 14, w ∈ wsX3_online := by decide +kernel
  subst hsz
  have hD := hD0.self (sz := s.heap.size)
  have hAlo : ∀ q, va_A (mW cI m0 a th σ) s.heap.size q → lo ≤ q := eA_lo hD0 hlo
  generalize hAe : va_A (mW cI m0 a th σ) s.heap.size = A at hD hAlo ⊢
  have hA : ∀ q : Nat, s.heap.size ≤ q → A q := fun q h => by rw [← hAe]; exact Or.inr h
  have hS : va_S A s.heap s.heap [] := va_S.rf
  have hP : va_P dD vwCl (mW cI m0 a th σ) s.heap := hP
  obtain ⟨i_now, i_n, i_tk, i_k, i_lt, i_row, i_cp, i_srv⟩ := id hI
  have hl := lv_entry ([.ref m0, .int f, .int e]) (n := 3) (Nat.le_of_ble_eq_true rfl)
  rw [lg_entry_eq]
  generalize (lg_sl ([.ref m0, .int f, .int e]) ++ List.replicate (3 - (lg_sl ([.ref m0, .int f, .int e])).length) Slot.unset).toArray = ls at hl ⊢
  have hl : lv_has ls 3 [(0, .ref m0), (1, .int f), (2, .int e)] := hl
  refine lv_aload_n hx hb dX3_online_0 rfl (lv_at hl 0 rfl) ?_
  refine lv_iload_n hx hb dX3_online_1 rfl (lv_at hl 1 rfl) ?_
  refine lv_iload_n hx hb dX3_online_2 rfl (lv_at hl 2 rfl) ?_
  refine vp_callSi (va_Run.run (va_runS (As := [.int f, .int e]) (rest := [.ref m0]) ⟨hx, hb, hml, hown, hts⟩ (c_X3_isPair l dD cI cR cS lo f e) (va_cwS 2 hts gX3_online_X3_isPair rfl rfl rfl (by decide +kernel) ⟨Nat.le_of_ble_eq_true rfl, Nat.le_of_ble_eq_true rfl⟩) (ePreS hE (hS.mono hAlo) trivial) rfl rfl hl.1 rfl (lv_room (Nat.le_of_ble_eq_true rfl)) dX3_online_3 ⟨Nat.le_of_ble_eq_true rfl, Nat.le_of_ble_eq_true rfl⟩)) (fun r_3 hr_3 => ?_)
  rcases hr_3 with ⟨rfl, hr_3⟩ | ⟨rfl, hr_3⟩
  · obtain ⟨fn, hfn1, hfn2, rfl⟩ := rg_of (by decide) (by decide) (hr_3.1)
    obtain ⟨en, hen1, hen2, rfl⟩ := rg_of (by decide) (by decide) (hr_3.2)
    obtain ⟨hz_1, hz_2⟩ := i_cp (10 * fn + en) (by omega)
    refine nv_if_eq (tgt := 13) hx hb dX3_online_6 (by decide) (by decide) (fun c_6 => absurd c_6 (by decide)) (fun c_6 => ?_)
    refine lv_iconst (v := nI 0) hx hb dX3_online_9 (by decide +kernel) ?_
    refine lv_goto (tgt := 14) hx hb dX3_online_10 (by decide) ?_
    refine va_put (D := dD) (ci := 3) (v := .int (nI 0)) (ty := .int) (C := RX3) (T := TX3) (N := 14) hx hb hts hinX3 tyX3 tyX3_ok nmX3 hown hK hP hD hS 0 rfl rfl 0 (by decide) (hts (.fieldLink RX3 37 "FeatureStoreModel" "thrown" "I") (by decide +kernel)) (fun _ h9 => h9) rfl (by decide +kernel) rfl rfl (Nat.le_of_ble_eq_true rfl) dX3_online_14 (fun H locs hP hD hS => ?_)
    have hP : va_P dD vwCl [(m0, .inr (3, [.int (nI 0), .int (nI (s_now σ)), .ref (a 0), .int (nI (s_n σ)), .ref (a 1), .ref (a 2), .ref (a 3), .ref (a 4), .int (nI (s_tk σ)), .ref (a 5), .int (nI (s_k σ)), .ref (a 6), .ref (a 7), .ref (a 8)])), (a 0, .inl (cI, 6, .inl (fun j => nI (s_lt σ j)))), (a 1, .inl (cI, 200, .inl (fun j => nI (s_pr σ j)))), (a 2, .inl (cI, 200, .inl (fun j => nI (s_ev σ j)))), (a 3, .inl (cI, 200, .inl (fun j => nI (s_ar σ j)))), (a 4, .inl (cI, 200, .inl (fun j => nI (s_vl σ j)))), (a 5, .inl (cI, 60, .inl (fun j => nI (s_cp σ j)))), (a 6, .inl (cI, 200, .inl (fun j => nI (s_sp σ j)))), (a 7, .inl (cI, 200, .inl (fun j => nI (s_sa σ j)))), (a 8, .inl (cI, 200, .inl (fun j => eN (s_sv σ j))))] H := hP
    have hD : va_D A [(m0, .inr (3, [.int (nI 0), .int (nI (s_now σ)), .ref (a 0), .int (nI (s_n σ)), .ref (a 1), .ref (a 2), .ref (a 3), .ref (a 4), .int (nI (s_tk σ)), .ref (a 5), .int (nI (s_k σ)), .ref (a 6), .ref (a 7), .ref (a 8)])), (a 0, .inl (cI, 6, .inl (fun j => nI (s_lt σ j)))), (a 1, .inl (cI, 200, .inl (fun j => nI (s_pr σ j)))), (a 2, .inl (cI, 200, .inl (fun j => nI (s_ev σ j)))), (a 3, .inl (cI, 200, .inl (fun j => nI (s_ar σ j)))), (a 4, .inl (cI, 200, .inl (fun j => nI (s_vl σ j)))), (a 5, .inl (cI, 60, .inl (fun j => nI (s_cp σ j)))), (a 6, .inl (cI, 200, .inl (fun j => nI (s_sp σ j)))), (a 7, .inl (cI, 200, .inl (fun j => nI (s_sa σ j)))), (a 8, .inl (cI, 200, .inl (fun j => eN (s_sv σ j))))] := hD
    refine lv_aload_n hx hb dX3_online_17 rfl (lv_at hl 0 rfl) ?_
    refine va_get (D := dD) (ci := 3) (v := .int (nI 0)) (C := RX3) (T := TX3) (N := 14) hx hb hts hinX3 hown hK hP 0 rfl rfl 0 (by decide) (hts (.fieldLink RX3 37 "FeatureStoreModel" "thrown" "I") (by decide +kernel)) (fun _ h9 => h9) rfl dX3_online_18 ?_
    refine nv_if_le (tgt := 28) hx hb dX3_online_21 (by decide) (by decide) (fun c_21 => ?_) (fun c_21 => absurd c_21 (by decide))
    refine lv_aload_n hx hb dX3_online_28 rfl (lv_at hl 0 rfl) ?_
    refine lv_aload_n hx hb dX3_online_29 rfl (lv_at hl 0 rfl) ?_
    refine va_get (D := dD) (ci := 3) (v := .ref (a 5)) (C := RX3) (T := TX3) (N := 14) hx hb hts hinX3 hown hK hP 0 rfl rfl 9 (by decide) (hts (.fieldLink RX3 25 "FeatureStoreModel" "copy" "[I") (by decide +kernel)) (fun _ h9 => h9) rfl dX3_online_30 ?_
    refine lv_iload_n hx hb dX3_online_33 rfl (lv_at hl 1 rfl) ?_
    refine lv_iload_n hx hb dX3_online_34 rfl (lv_at hl 2 rfl) ?_
    refine vp_callSi (va_Run.run (va_runS (As := [.int (nI fn), .int (nI en)]) (rest := [.ref (a 5), .ref m0]) ⟨hx, hb, hml, hown, hts⟩ (c_X3_pairOf l dD cI cR cS lo fn en) (va_cwS 2 hts gX3_online_X3_pairOf rfl rfl rfl (by decide +kernel) ⟨Nat.le_of_ble_eq_true rfl, Nat.le_of_ble_eq_true rfl⟩) (ePreS hE (hS.mono hAlo) trivial) rfl rfl hl.1 rfl (lv_room (Nat.le_of_ble_eq_true rfl)) dX3_online_35 ⟨Nat.le_of_ble_eq_true rfl, Nat.le_of_ble_eq_true rfl⟩)) (fun r_35 hr_35 => ?_)
    subst hr_35
    refine nv_iald (q0 := 6) (t0 := 0) (s_cp σ) hx hb hK hP rfl rfl (by omega) (by decide) dX3_online_38 ?_
    refine lv_iconst (v := nI 1) hx hb dX3_online_39 (by decide +kernel) ?_
    refine nv_isubN hx hb dX3_online_40 ?_
    refine lv_aload_n hx hb dX3_online_41 rfl (lv_at hl 0 rfl) ?_
    refine va_get (D := dD) (ci := 3) (v := .int (nI (s_now σ))) (C := RX3) (T := TX3) (N := 14) hx hb hts hinX3 hown hK hP 0 rfl rfl 1 (by decide) (hts (.fieldLink RX3 49 "FeatureStoreModel" "now" "I") (by decide +kernel)) (fun _ h9 => h9) rfl dX3_online_42 ?_
    refine vp_callSi (va_Run.run (va_runV (As := [.int (eN (s_cp σ (10 * fn + en))), .int (nI (s_now σ))]) (rest := []) ⟨hx, hb, hml, hown, hts⟩ (c_X3_fresh l dD cI cR cS lo m0 a 0 σ hI (s_cp σ (10 * fn + en)) (s_now σ) (by omega) (by omega)) (cwV 2 hts gX3_online_X3_fresh rfl rfl rfl (by decide +kernel) ⟨Nat.le_of_ble_eq_true rfl, Nat.le_of_ble_eq_true rfl⟩) (ePreV hE (hS.mono hAlo) hP (k := 0) rfl rfl hP) rfl rfl hl.1 rfl (lv_room (Nat.le_of_ble_eq_true rfl)) dX3_online_45 ⟨Nat.le_of_ble_eq_true rfl, Nat.le_of_ble_eq_true rfl⟩)) (fun r_45 hr_45 => ?_)
    subst hr_45
    exact W.iret (v := eN (q_fr σ (s_cp σ (10 * fn + en)) (s_now σ))) hx hb hr (fun u9 hu9 hW => ⟨⟨eN (q_fr σ (s_cp σ (10 * fn + en)) (s_now σ)), (0, σ), rfl, Or.inl ⟨hr_3, trivial, rfl, by rw [plN, cl_nI (by omega), cl_nI (by omega)]⟩, by have h9 := hP; rw [← hu9] at h9; exact h9⟩, hS.F hu9⟩) hS.2.2 dX3_online_48
  · refine nv_if_eq (tgt := 13) hx hb dX3_online_6 (by decide) (by decide) (fun c_6 => ?_) (fun c_6 => absurd c_6 (by decide))
    refine lv_iconst (v := nI 1) hx hb dX3_online_13 (by decide +kernel) ?_
    refine va_put (D := dD) (ci := 3) (v := .int (nI 1)) (ty := .int) (C := RX3) (T := TX3) (N := 14) hx hb hts hinX3 tyX3 tyX3_ok nmX3 hown hK hP hD hS 0 rfl rfl 0 (by decide) (hts (.fieldLink RX3 37 "FeatureStoreModel" "thrown" "I") (by decide +kernel)) (fun _ h9 => h9) rfl (by decide +kernel) rfl rfl (Nat.le_of_ble_eq_true rfl) dX3_online_14 (fun H locs hP hD hS => ?_)
    have hP : va_P dD vwCl [(m0, .inr (3, [.int (nI 1), .int (nI (s_now σ)), .ref (a 0), .int (nI (s_n σ)), .ref (a 1), .ref (a 2), .ref (a 3), .ref (a 4), .int (nI (s_tk σ)), .ref (a 5), .int (nI (s_k σ)), .ref (a 6), .ref (a 7), .ref (a 8)])), (a 0, .inl (cI, 6, .inl (fun j => nI (s_lt σ j)))), (a 1, .inl (cI, 200, .inl (fun j => nI (s_pr σ j)))), (a 2, .inl (cI, 200, .inl (fun j => nI (s_ev σ j)))), (a 3, .inl (cI, 200, .inl (fun j => nI (s_ar σ j)))), (a 4, .inl (cI, 200, .inl (fun j => nI (s_vl σ j)))), (a 5, .inl (cI, 60, .inl (fun j => nI (s_cp σ j)))), (a 6, .inl (cI, 200, .inl (fun j => nI (s_sp σ j)))), (a 7, .inl (cI, 200, .inl (fun j => nI (s_sa σ j)))), (a 8, .inl (cI, 200, .inl (fun j => eN (s_sv σ j))))] H := hP
    have hD : va_D A [(m0, .inr (3, [.int (nI 1), .int (nI (s_now σ)), .ref (a 0), .int (nI (s_n σ)), .ref (a 1), .ref (a 2), .ref (a 3), .ref (a 4), .int (nI (s_tk σ)), .ref (a 5), .int (nI (s_k σ)), .ref (a 6), .ref (a 7), .ref (a 8)])), (a 0, .inl (cI, 6, .inl (fun j => nI (s_lt σ j)))), (a 1, .inl (cI, 200, .inl (fun j => nI (s_pr σ j)))), (a 2, .inl (cI, 200, .inl (fun j => nI (s_ev σ j)))), (a 3, .inl (cI, 200, .inl (fun j => nI (s_ar σ j)))), (a 4, .inl (cI, 200, .inl (fun j => nI (s_vl σ j)))), (a 5, .inl (cI, 60, .inl (fun j => nI (s_cp σ j)))), (a 6, .inl (cI, 200, .inl (fun j => nI (s_sp σ j)))), (a 7, .inl (cI, 200, .inl (fun j => nI (s_sa σ j)))), (a 8, .inl (cI, 200, .inl (fun j => eN (s_sv σ j))))] := hD
    refine lv_aload_n hx hb dX3_online_17 rfl (lv_at hl 0 rfl) ?_
    refine va_get (D := dD) (ci := 3) (v := .int (nI 1)) (C := RX3) (T := TX3) (N := 14) hx hb hts hinX3 hown hK hP 0 rfl rfl 0 (by decide) (hts (.fieldLink RX3 37 "FeatureStoreModel" "thrown" "I") (by decide +kernel)) (fun _ h9 => h9) rfl dX3_online_18 ?_
    refine nv_if_le (tgt := 28) hx hb dX3_online_21 (by decide) (by decide) (fun c_21 => absurd c_21 (by decide)) (fun c_21 => ?_)
    refine lv_iconst (v := nI 0) hx hb dX3_online_24 (by decide +kernel) ?_
    refine lv_goto (tgt := 48) hx hb dX3_online_25 (by decide) ?_
    exact W.iret (v := nI 0) hx hb hr (fun u9 hu9 hW => ⟨⟨nI 0, (1, σ), rfl, Or.inr (Or.inl ⟨hr_3, rfl⟩), by have h9 := hP; rw [← hu9] at h9; exact h9⟩, hS.F hu9⟩) hS.2.2 dX3_online_48

set_option maxHeartbeats 4000000 in
set_option maxRecDepth 100000 in
theorem c_X3_greatestTile (l : Launch) (dD : va_G) (cI cR cS : ClassId) (lo : Nat) (sz : Nat) (hlo : lo ≤ sz) (m0 : Nat) (a : Nat → Nat) (th : Nat) (σ : St) (hI : sI σ) (f e x : Int32) : Met l yX3_greatestTile wsX3_greatestTile ({ frames := 3, cells := 0, slots := 0, locals := 66 }) (ePc dD cI cR cS lo [.ref m0, .int f, .int e, .int x] (fun H => H.size = sz ∧ va_P dD vwCl (mW cI m0 a th σ) H ∧ va_D (fun q => lo ≤ q) (mW cI m0 a th σ))) (va_Qi (fun (r : Int32) (u : Nat × St) => R3 (okP f e ∧ rg x 1 10000) True σ σ (nI (q_gt σ (plN f e) (cl x) (s_n σ))) r u) (fun u t => va_P dD vwCl (mW cI m0 a u.1 u.2) t.heap) (va_A (mW cI m0 a th σ) sz)) 0 0 (va_A (mW cI m0 a th σ) sz) := by
  refine Met.ofW (cc := cX3_greatestTile) (maxL := 9) (ret := (some .int)) (by decide) rfl ?_
  intro p e_ s m args below meth c s₁ B hml hv
  obtain ⟨rfl, hE, hsz, hP, hD0⟩ := hv
  have hx := B.exec
  have hb := B.bytes
  have hr := B.returns
  have hts := atoms_spec (ws := wsX3_greatestTile) B.pre
  have hown : s.vm.findClass RX3 = some m.cls := findClass_of_methodNamed B.named
  have hlocks := B.notSynchronized
  have hK := hE.1.1
  have hinX3 : ∀ w ∈ u_ws RX3 TX3 14, w ∈ wsX3_greatestTile := by decide +kernel
  subst hsz
  have hD := hD0.self (sz := s.heap.size)
  have hAlo : ∀ q, va_A (mW cI m0 a th σ) s.heap.size q → lo ≤ q := eA_lo hD0 hlo
  generalize hAe : va_A (mW cI m0 a th σ) s.heap.size = A at hD hAlo ⊢
  have hA : ∀ q : Nat, s.heap.size ≤ q → A q := fun q h => by rw [← hAe]; exact Or.inr h
  have hS : va_S A s.heap s.heap [] := va_S.rf
  have hP : va_P dD vwCl (mW cI m0 a th σ) s.heap := hP
  obtain ⟨i_now, i_n, i_tk, i_k, i_lt, i_row, i_cp, i_srv⟩ := id hI
  have hl := lv_entry ([.ref m0, .int f, .int e, .int x]) (n := 9) (Nat.le_of_ble_eq_true rfl)
  rw [lg_entry_eq]
  generalize (lg_sl ([.ref m0, .int f, .int e, .int x]) ++ List.replicate (9 - (lg_sl ([.ref m0, .int f, .int e, .int x])).length) Slot.unset).toArray = ls at hl ⊢
  have hl : lv_has ls 9 [(0, .ref m0), (1, .int f), (2, .int e), (3, .int x)] := hl
  refine lv_iconst (v := nI 0) hx hb dX3_greatestTile_0 (by decide +kernel) ?_
  refine lv_istore (lv' := [(4, .int (nI 0)), (0, .ref m0), (1, .int f), (2, .int e), (3, .int x)]) hx hb dX3_greatestTile_1 hl (by decide) rfl (fun ls hl => ?_)
  refine lv_aload_n hx hb dX3_greatestTile_3 rfl (lv_at hl 1 rfl) ?_
  refine lv_iload_n hx hb dX3_greatestTile_4 rfl (lv_at hl 2 rfl) ?_
  refine lv_iload_n hx hb dX3_greatestTile_5 rfl (lv_at hl 3 rfl) ?_
  refine lv_iload_n hx hb dX3_greatestTile_6 rfl (lv_at hl 4 rfl) ?_
  have hFc := va_free (wc := (mW cI m0 a th σ)) hD hS hA [0, 1, 2, 3, 4, 5, 6, 7, 8, 9] rfl
  refine va_calli (va_runV (As := [.int f, .int e, .int x]) (rest := []) ⟨hx, hb, hml, hown, hts⟩ (c_X3_asksTiles l dD cI cR cS lo s.heap.size (Nat.le_trans hlo hS.1) m0 a th σ hI f e x) (cwV 3 hts gX3_greatestTile_X3_asksTiles rfl rfl rfl (by decide +kernel) ⟨Nat.le_of_ble_eq_true rfl, Nat.le_of_ble_eq_true rfl⟩) (ePreV hE (hS.mono hAlo) hP (k := 0) rfl rfl ⟨rfl, hP, va_D_fst hD0 rfl⟩) rfl rfl hl.1 rfl (lv_room (Nat.le_of_ble_eq_true rfl)) dX3_greatestTile_7 ⟨Nat.le_of_ble_eq_true rfl, Nat.le_of_ble_eq_true rfl⟩) hS (fun q _ h => hFc q h) hFc (fun r_7 u_ t_ H1 locs ht_ hvm_ hw_7 hB_ hz_ hk_ hS => ?_)
  obtain ⟨th_, σ_⟩ := u_
  rcases hw_7 with ⟨hc_, e_1, rfl⟩ | ⟨hc_, e_1, rfl⟩
  · cases e_1
    have hP : va_P dD vwCl (mW cI m0 a 0 σ) H1 := by rw [← ht_]; exact hB_
    have hD : va_D A (mW cI m0 a 0 σ) := va_D_fst hD rfl
    obtain ⟨fn, hfn1, hfn2, rfl⟩ := rg_of (by decide) (by decide) (hc_.1.1)
    obtain ⟨en, hen1, hen2, rfl⟩ := rg_of (by decide) (by decide) (hc_.1.2)
    obtain ⟨len, hlen1, hlen2, rfl⟩ := rg_of (by decide) (by decide) (hc_.2)
    refine nv_if_eq (tgt := 109) hx hb dX3_greatestTile_10 (by decide) (by decide) (fun c_10 => absurd c_10 (by decide)) (fun c_10 => ?_)
    refine lv_iload_n hx hb dX3_greatestTile_13 rfl (lv_at hl 2 rfl) ?_
    refine lv_iload_n hx hb dX3_greatestTile_14 rfl (lv_at hl 3 rfl) ?_
    refine vp_callSi (va_Run.run (va_runS (As := [.int (nI fn), .int (nI en)]) (rest := []) ⟨hx, hb, hml, hown, hts⟩ (c_X3_pairOf l dD cI cR cS lo fn en) (va_cwS 2 hts gX3_greatestTile_X3_pairOf rfl rfl rfl (by decide +kernel) ⟨Nat.le_of_ble_eq_true rfl, Nat.le_of_ble_eq_true rfl⟩) (ePreS hE (hS.mono hAlo) trivial) rfl rfl hl.1 rfl (lv_room (Nat.le_of_ble_eq_true rfl)) dX3_greatestTile_15 ⟨Nat.le_of_ble_eq_true rfl, Nat.le_of_ble_eq_true rfl⟩)) (fun r_15 hr_15 => ?_)
    subst hr_15
    refine lv_istore (lv' := [(5, .int (nI (10 * fn + en))), (4, .int (nI 0)), (0, .ref m0), (1, .int (nI fn)), (2, .int (nI en)), (3, .int (nI len))]) hx hb dX3_greatestTile_18 hl (by decide) rfl (fun ls hl => ?_)
    refine lv_iconst (v := nI 0) hx hb dX3_greatestTile_20 (by decide +kernel) ?_
    refine lv_istore (lv' := [(6, .int (nI 0)), (5, .int (nI (10 * fn + en))), (4, .int (nI 0)), (0, .ref m0), (1, .int (nI fn)), (2, .int (nI en)), (3, .int (nI len))]) hx hb dX3_greatestTile_21 hl (by decide) rfl (fun ls hl => ?_)
    have hlp : ∀ (d : Nat) (r : Nat), r ≤ s_n σ → s_n σ < r + d → ∀ (ls : Array Slot), lv_has ls 9 [(0, .ref m0), (1, .int (nI fn)), (2, .int (nI en)), (3, .int (nI len)), (4, .int (nI (q_gt σ (10 * fn + en) len r))), (5, .int (nI (10 * fn + en))), (6, .int (nI r))] → W p l e_ (headSpec wsX3_greatestTile ({ frames := 3, cells := 0, slots := 0, locals := 66 })).room s m (([.ref m0, .int (nI fn), .int (nI en), .int (nI len)] : List Value).toArray) below meth c H1 locs 0 0 (MQ below (va_Qi (fun (r : Int32) (u : Nat × St) => R3 (okP (nI fn) (nI en) ∧ rg (nI len) 1 10000) True σ σ (nI (q_gt σ (plN (nI fn) (nI en)) (cl (nI len)) (s_n σ))) r u) (fun u t => va_P dD vwCl (mW cI m0 a u.1 u.2) t.heap) A) (([.ref m0, .int (nI fn), .int (nI en), .int (nI len)] : List Value).toArray) s 0 0 A) (F0 m 23 ls []) := by
      intro d
      induction d with
      | zero =>
        intro r hr1 hr2 ls hl
        exact absurd hr2 (by omega)
      | succ d ih =>
        intro r hr1 hr2 ls hl
        refine lv_iload hx hb dX3_greatestTile_23 (lv_at hl 6 rfl) ?_
        refine lv_aload_n hx hb dX3_greatestTile_25 rfl (lv_at hl 0 rfl) ?_
        refine va_get (D := dD) (ci := 3) (v := .int (nI (s_n σ))) (C := RX3) (T := TX3) (N := 14) hx hb hts hinX3 hown hK hP 0 rfl rfl 3 (by decide) (hts (.fieldLink RX3 53 "FeatureStoreModel" "rows" "I") (by decide +kernel)) (fun _ h9 => h9) rfl dX3_greatestTile_26 ?_
        refine nv_ge (tgt := 109) hx hb dX3_greatestTile_29 (by decide) (by omega) (by omega) (fun c_29 => ?_) (fun c_29 => ?_)
        · have hre : r = s_n σ := by omega
          subst hre
          have hl : lv_has ls 9 [(4, .int (nI (q_gt σ (10 * fn + en) len (s_n σ))))] := lv_sub hl [4] rfl
          refine lv_iload hx hb dX3_greatestTile_109 (lv_at hl 0 rfl) ?_
          exact W.iret (v := nI (q_gt σ (10 * fn + en) len (s_n σ))) hx hb hr (fun u9 hu9 hW => ⟨⟨nI (q_gt σ (10 * fn + en) len (s_n σ)), (0, σ), rfl, Or.inl ⟨hc_, trivial, rfl, by rw [plN, cl_nI (by omega), cl_nI (by omega), cl_nI (by omega)]⟩, by have h9 := hP; rw [← hu9] at h9; exact h9⟩, hS.F hu9⟩) hS.2.2 dX3_greatestTile_111
        · have hz_r : r < s_n σ := by omega
          obtain ⟨hz_1, hz_2, hz_3, hz_4⟩ := i_row r hz_r
          have hz_d := Nat.div_mul_le_self (s_ev σ r) len
          have hz_d1 : s_ev σ r / len ≤ s_ev σ r := Nat.div_le_self _ _
          have hz_f := q_fst_01 σ len r r
          have hz_g := q_gt_le hI (10 * fn + en) len r
          have hz_s := q_sum_le hI (10 * fn + en) (s_ev σ r / len * len) (s_ev σ r / len * len + len - 1) (s_n σ) (Nat.le_refl _)
          refine lv_aload_n hx hb dX3_greatestTile_32 rfl (lv_at hl 0 rfl) ?_
          refine va_get (D := dD) (ci := 3) (v := .ref (a 2)) (C := RX3) (T := TX3) (N := 14) hx hb hts hinX3 hown hK hP 0 rfl rfl 5 (by decide) (hts (.fieldLink RX3 16 "FeatureStoreModel" "event" "[I") (by decide +kernel)) (fun _ h9 => h9) rfl dX3_greatestTile_33 ?_
          refine lv_iload hx hb dX3_greatestTile_36 (lv_at hl 6 rfl) ?_
          refine nv_iald (q0 := 3) (t0 := 0) (s_ev σ) hx hb hK hP rfl rfl (by omega) (by decide) dX3_greatestTile_38 ?_
          refine lv_iload_n hx hb dX3_greatestTile_39 rfl (lv_at hl 3 rfl) ?_
          refine nv_idiv hx hb dX3_greatestTile_40 (by omega) (by omega) (by omega) ?_
          refine lv_iload_n hx hb dX3_greatestTile_41 rfl (lv_at hl 3 rfl) ?_
          refine nv_imul hx hb dX3_greatestTile_42 ?_
          refine lv_istore (lv' := [(7, .int (nI (((s_ev σ r) / len) * len))), (0, .ref m0), (1, .int (nI fn)), (2, .int (nI en)), (3, .int (nI len)), (4, .int (nI (q_gt σ (10 * fn + en) len r))), (5, .int (nI (10 * fn + en))), (6, .int (nI r))]) hx hb dX3_greatestTile_43 hl (by decide) rfl (fun ls hl => ?_)
          refine lv_aload_n hx hb dX3_greatestTile_45 rfl (lv_at hl 1 rfl) ?_
          refine va_get (D := dD) (ci := 3) (v := .ref (a 1)) (C := RX3) (T := TX3) (N := 14) hx hb hts hinX3 hown hK hP 0 rfl rfl 4 (by decide) (hts (.fieldLink RX3 13 "FeatureStoreModel" "pair" "[I") (by decide +kernel)) (fun _ h9 => h9) rfl dX3_greatestTile_46 ?_
          refine lv_iload hx hb dX3_greatestTile_49 (lv_at hl 7 rfl) ?_
          refine nv_iald (q0 := 2) (t0 := 0) (s_pr σ) hx hb hK hP rfl rfl (by omega) (by decide) dX3_greatestTile_51 ?_
          refine lv_iload hx hb dX3_greatestTile_52 (lv_at hl 6 rfl) ?_
          refine nv_ne (tgt := 84) hx hb dX3_greatestTile_54 (by decide) (by omega) (by omega) (fun c_54 => ?_) (fun c_54 => ?_)
          · refine lv_iconst (v := nI 0) hx hb dX3_greatestTile_84 (by decide +kernel) ?_
            refine lv_istore (lv' := [(8, .int (nI 0)), (7, .int (nI (((s_ev σ r) / len) * len))), (0, .ref m0), (1, .int (nI fn)), (2, .int (nI en)), (3, .int (nI len)), (4, .int (nI (q_gt σ (10 * fn + en) len r))), (5, .int (nI (10 * fn + en))), (6, .int (nI r))]) hx hb dX3_greatestTile_85 hl (by decide) rfl (fun ls hl => ?_)
            refine lv_iload hx hb dX3_greatestTile_87 (lv_at hl 0 rfl) ?_
            refine lv_iload hx hb dX3_greatestTile_89 (lv_at hl 6 rfl) ?_
            refine nv_le (tgt := 99) hx hb dX3_greatestTile_91 (by decide) (by omega) (by omega) (fun c_91 => ?_) (fun c_91 => ?_)
            · refine lv_iload hx hb dX3_greatestTile_99 (lv_at hl 6 rfl) ?_
              refine lv_istore (lv' := [(4, .int (nI (q_gt σ (10 * fn + en) len r))), (8, .int (nI 0)), (7, .int (nI (((s_ev σ r) / len) * len))), (0, .ref m0), (1, .int (nI fn)), (2, .int (nI en)), (3, .int (nI len)), (5, .int (nI (10 * fn + en))), (6, .int (nI r))]) hx hb dX3_greatestTile_101 hl (by decide) rfl (fun ls hl => ?_)
              refine lv_iinc (v := nI (r + 1)) (lv' := [(6, .int (nI (r + 1))), (4, .int (nI (q_gt σ (10 * fn + en) len r))), (8, .int (nI 0)), (7, .int (nI (((s_ev σ r) / len) * len))), (0, .ref m0), (1, .int (nI fn)), (2, .int (nI en)), (3, .int (nI len)), (5, .int (nI (10 * fn + en)))]) hx hb dX3_greatestTile_103 hl (k := 8) rfl (nv_inc _ 1) (by decide) rfl (fun ls hl => ?_)
              refine lv_goto (tgt := 23) hx hb dX3_greatestTile_106 (by decide) ?_
              exact ih (r + 1) (by omega) (by omega) ls (by rw [show q_gt σ (10 * fn + en) len (r + 1) = q_gt σ (10 * fn + en) len r from by simp only [q_gt, show q_its σ (10 * fn + en) len r = 0 from by simp only [q_its]; split <;> first | rfl | omega]; split <;> omega]; exact lv_sub hl [4, 5, 6, 7, 1, 8, 0] rfl)
            · refine lv_iload hx hb dX3_greatestTile_94 (lv_at hl 0 rfl) ?_
              refine lv_goto (tgt := 101) hx hb dX3_greatestTile_96 (by decide) ?_
              refine lv_istore (lv' := [(4, .int (nI 0)), (8, .int (nI 0)), (7, .int (nI (((s_ev σ r) / len) * len))), (0, .ref m0), (1, .int (nI fn)), (2, .int (nI en)), (3, .int (nI len)), (5, .int (nI (10 * fn + en))), (6, .int (nI r))]) hx hb dX3_greatestTile_101 hl (by decide) rfl (fun ls hl => ?_)
              refine lv_iinc (v := nI (r + 1)) (lv' := [(6, .int (nI (r + 1))), (4, .int (nI 0)), (8, .int (nI 0)), (7, .int (nI (((s_ev σ r) / len) * len))), (0, .ref m0), (1, .int (nI fn)), (2, .int (nI en)), (3, .int (nI len)), (5, .int (nI (10 * fn + en)))]) hx hb dX3_greatestTile_103 hl (k := 8) rfl (nv_inc _ 1) (by decide) rfl (fun ls hl => ?_)
              refine lv_goto (tgt := 23) hx hb dX3_greatestTile_106 (by decide) ?_
              exact ih (r + 1) (by omega) (by omega) ls (by rw [show q_gt σ (10 * fn + en) len (r + 1) = 0 from by simp only [q_gt, show q_its σ (10 * fn + en) len r = 0 from by simp only [q_its]; split <;> first | rfl | omega]; split <;> omega]; exact lv_sub hl [4, 5, 6, 7, 1, 8, 0] rfl)
          · refine lv_aload_n hx hb dX3_greatestTile_57 rfl (lv_at hl 1 rfl) ?_
            refine lv_iload hx hb dX3_greatestTile_58 (lv_at hl 7 rfl) ?_
            refine lv_iload_n hx hb dX3_greatestTile_60 rfl (lv_at hl 4 rfl) ?_
            refine vp_callSi (va_Run.run (va_runV (As := [.int (nI r), .int (nI len)]) (rest := []) ⟨hx, hb, hml, hown, hts⟩ (c_X3_isFirst l dD cI cR cS lo m0 a 0 σ hI (r) (len) (by omega) (by omega) (by omega)) (cwV 2 hts gX3_greatestTile_X3_isFirst rfl rfl rfl (by decide +kernel) ⟨Nat.le_of_ble_eq_true rfl, Nat.le_of_ble_eq_true rfl⟩) (ePreV hE (hS.mono hAlo) hP (k := 0) rfl rfl hP) rfl rfl hl.1 rfl (lv_room (Nat.le_of_ble_eq_true rfl)) dX3_greatestTile_61 ⟨Nat.le_of_ble_eq_true rfl, Nat.le_of_ble_eq_true rfl⟩)) (fun r_61 hr_61 => ?_)
            subst hr_61
            refine nv_if_eq (tgt := 84) hx hb dX3_greatestTile_64 (by decide) (by omega) (fun c_64 => ?_) (fun c_64 => ?_)
            · refine lv_iconst (v := nI 0) hx hb dX3_greatestTile_84 (by decide +kernel) ?_
              refine lv_istore (lv' := [(8, .int (nI 0)), (7, .int (nI (((s_ev σ r) / len) * len))), (0, .ref m0), (1, .int (nI fn)), (2, .int (nI en)), (3, .int (nI len)), (4, .int (nI (q_gt σ (10 * fn + en) len r))), (5, .int (nI (10 * fn + en))), (6, .int (nI r))]) hx hb dX3_greatestTile_85 hl (by decide) rfl (fun ls hl => ?_)
              refine lv_iload hx hb dX3_greatestTile_87 (lv_at hl 0 rfl) ?_
              refine lv_iload hx hb dX3_greatestTile_89 (lv_at hl 6 rfl) ?_
              refine nv_le (tgt := 99) hx hb dX3_greatestTile_91 (by decide) (by omega) (by omega) (fun c_91 => ?_) (fun c_91 => ?_)
              · refine lv_iload hx hb dX3_greatestTile_99 (lv_at hl 6 rfl) ?_
                refine lv_istore (lv' := [(4, .int (nI (q_gt σ (10 * fn + en) len r))), (8, .int (nI 0)), (7, .int (nI (((s_ev σ r) / len) * len))), (0, .ref m0), (1, .int (nI fn)), (2, .int (nI en)), (3, .int (nI len)), (5, .int (nI (10 * fn + en))), (6, .int (nI r))]) hx hb dX3_greatestTile_101 hl (by decide) rfl (fun ls hl => ?_)
                refine lv_iinc (v := nI (r + 1)) (lv' := [(6, .int (nI (r + 1))), (4, .int (nI (q_gt σ (10 * fn + en) len r))), (8, .int (nI 0)), (7, .int (nI (((s_ev σ r) / len) * len))), (0, .ref m0), (1, .int (nI fn)), (2, .int (nI en)), (3, .int (nI len)), (5, .int (nI (10 * fn + en)))]) hx hb dX3_greatestTile_103 hl (k := 8) rfl (nv_inc _ 1) (by decide) rfl (fun ls hl => ?_)
                refine lv_goto (tgt := 23) hx hb dX3_greatestTile_106 (by decide) ?_
                exact ih (r + 1) (by omega) (by omega) ls (by rw [show q_gt σ (10 * fn + en) len (r + 1) = q_gt σ (10 * fn + en) len r from by simp only [q_gt, show q_its σ (10 * fn + en) len r = 0 from by simp only [q_its]; split <;> first | rfl | omega]; split <;> omega]; exact lv_sub hl [4, 5, 6, 7, 1, 8, 0] rfl)
              · refine lv_iload hx hb dX3_greatestTile_94 (lv_at hl 0 rfl) ?_
                refine lv_goto (tgt := 101) hx hb dX3_greatestTile_96 (by decide) ?_
                refine lv_istore (lv' := [(4, .int (nI 0)), (8, .int (nI 0)), (7, .int (nI (((s_ev σ r) / len) * len))), (0, .ref m0), (1, .int (nI fn)), (2, .int (nI en)), (3, .int (nI len)), (5, .int (nI (10 * fn + en))), (6, .int (nI r))]) hx hb dX3_greatestTile_101 hl (by decide) rfl (fun ls hl => ?_)
                refine lv_iinc (v := nI (r + 1)) (lv' := [(6, .int (nI (r + 1))), (4, .int (nI 0)), (8, .int (nI 0)), (7, .int (nI (((s_ev σ r) / len) * len))), (0, .ref m0), (1, .int (nI fn)), (2, .int (nI en)), (3, .int (nI len)), (5, .int (nI (10 * fn + en)))]) hx hb dX3_greatestTile_103 hl (k := 8) rfl (nv_inc _ 1) (by decide) rfl (fun ls hl => ?_)
                refine lv_goto (tgt := 23) hx hb dX3_greatestTile_106 (by decide) ?_
                exact ih (r + 1) (by omega) (by omega) ls (by rw [show q_gt σ (10 * fn + en) len (r + 1) = 0 from by simp only [q_gt, show q_its σ (10 * fn + en) len r = 0 from by simp only [q_its]; split <;> first | rfl | omega]; split <;> omega]; exact lv_sub hl [4, 5, 6, 7, 1, 8, 0] rfl)
            · refine lv_aload_n hx hb dX3_greatestTile_67 rfl (lv_at hl 1 rfl) ?_
              refine lv_iload hx hb dX3_greatestTile_68 (lv_at hl 6 rfl) ?_
              refine lv_iload hx hb dX3_greatestTile_70 (lv_at hl 0 rfl) ?_
              refine lv_iload hx hb dX3_greatestTile_72 (lv_at hl 0 rfl) ?_
              refine lv_iload_n hx hb dX3_greatestTile_74 rfl (lv_at hl 4 rfl) ?_
              refine nv_iadd hx hb dX3_greatestTile_75 ?_
              refine lv_iconst (v := nI 1) hx hb dX3_greatestTile_76 (by decide +kernel) ?_
              refine nv_isub hx hb dX3_greatestTile_77 (by omega) ?_
              refine vp_callSi (va_Run.run (va_runV (As := [.int (nI (10 * fn + en)), .int (nI (((s_ev σ r) / len) * len)), .int (nI (((((s_ev σ r) / len) * len) + len) - 1))]) (rest := []) ⟨hx, hb, hml, hown, hts⟩ (c_X3_sums l dD cI cR cS lo m0 a 0 σ hI (10 * fn + en) (((s_ev σ r) / len) * len) (((((s_ev σ r) / len) * len) + len) - 1) (by omega) (by omega) (by omega)) (cwV 3 hts gX3_greatestTile_X3_sums rfl rfl rfl (by decide +kernel) ⟨Nat.le_of_ble_eq_true rfl, Nat.le_of_ble_eq_true rfl⟩) (ePreV hE (hS.mono hAlo) hP (k := 0) rfl rfl hP) rfl rfl hl.1 rfl (lv_room (Nat.le_of_ble_eq_true rfl)) dX3_greatestTile_78 ⟨Nat.le_of_ble_eq_true rfl, Nat.le_of_ble_eq_true rfl⟩)) (fun r_78 hr_78 => ?_)
              subst hr_78
              refine lv_goto (tgt := 85) hx hb dX3_greatestTile_81 (by decide) ?_
              refine lv_istore (lv' := [(8, .int (nI (q_sum σ (10 * fn + en) (((s_ev σ r) / len) * len) (((((s_ev σ r) / len) * len) + len) - 1) (s_n σ)))), (7, .int (nI (((s_ev σ r) / len) * len))), (0, .ref m0), (1, .int (nI fn)), (2, .int (nI en)), (3, .int (nI len)), (4, .int (nI (q_gt σ (10 * fn + en) len r))), (5, .int (nI (10 * fn + en))), (6, .int (nI r))]) hx hb dX3_greatestTile_85 hl (by decide) rfl (fun ls hl => ?_)
              refine lv_iload hx hb dX3_greatestTile_87 (lv_at hl 0 rfl) ?_
              refine lv_iload hx hb dX3_greatestTile_89 (lv_at hl 6 rfl) ?_
              refine nv_le (tgt := 99) hx hb dX3_greatestTile_91 (by decide) (by omega) (by omega) (fun c_91 => ?_) (fun c_91 => ?_)
              · refine lv_iload hx hb dX3_greatestTile_99 (lv_at hl 6 rfl) ?_
                refine lv_istore (lv' := [(4, .int (nI (q_gt σ (10 * fn + en) len r))), (8, .int (nI (q_sum σ (10 * fn + en) (((s_ev σ r) / len) * len) (((((s_ev σ r) / len) * len) + len) - 1) (s_n σ)))), (7, .int (nI (((s_ev σ r) / len) * len))), (0, .ref m0), (1, .int (nI fn)), (2, .int (nI en)), (3, .int (nI len)), (5, .int (nI (10 * fn + en))), (6, .int (nI r))]) hx hb dX3_greatestTile_101 hl (by decide) rfl (fun ls hl => ?_)
                refine lv_iinc (v := nI (r + 1)) (lv' := [(6, .int (nI (r + 1))), (4, .int (nI (q_gt σ (10 * fn + en) len r))), (8, .int (nI (q_sum σ (10 * fn + en) (((s_ev σ r) / len) * len) (((((s_ev σ r) / len) * len) + len) - 1) (s_n σ)))), (7, .int (nI (((s_ev σ r) / len) * len))), (0, .ref m0), (1, .int (nI fn)), (2, .int (nI en)), (3, .int (nI len)), (5, .int (nI (10 * fn + en)))]) hx hb dX3_greatestTile_103 hl (k := 8) rfl (nv_inc _ 1) (by decide) rfl (fun ls hl => ?_)
                refine lv_goto (tgt := 23) hx hb dX3_greatestTile_106 (by decide) ?_
                exact ih (r + 1) (by omega) (by omega) ls (by rw [show q_gt σ (10 * fn + en) len (r + 1) = q_gt σ (10 * fn + en) len r from by simp only [q_gt, show q_its σ (10 * fn + en) len r = q_sum σ (10 * fn + en) (((s_ev σ r) / len) * len) (((((s_ev σ r) / len) * len) + len) - 1) (s_n σ) from by simp only [q_its]; split <;> first | rfl | omega]; split <;> omega]; exact lv_sub hl [4, 5, 6, 7, 1, 8, 0] rfl)
              · refine lv_iload hx hb dX3_greatestTile_94 (lv_at hl 0 rfl) ?_
                refine lv_goto (tgt := 101) hx hb dX3_greatestTile_96 (by decide) ?_
                refine lv_istore (lv' := [(4, .int (nI (q_sum σ (10 * fn + en) (((s_ev σ r) / len) * len) (((((s_ev σ r) / len) * len) + len) - 1) (s_n σ)))), (8, .int (nI (q_sum σ (10 * fn + en) (((s_ev σ r) / len) * len) (((((s_ev σ r) / len) * len) + len) - 1) (s_n σ)))), (7, .int (nI (((s_ev σ r) / len) * len))), (0, .ref m0), (1, .int (nI fn)), (2, .int (nI en)), (3, .int (nI len)), (5, .int (nI (10 * fn + en))), (6, .int (nI r))]) hx hb dX3_greatestTile_101 hl (by decide) rfl (fun ls hl => ?_)
                refine lv_iinc (v := nI (r + 1)) (lv' := [(6, .int (nI (r + 1))), (4, .int (nI (q_sum σ (10 * fn + en) (((s_ev σ r) / len) * len) (((((s_ev σ r) / len) * len) + len) - 1) (s_n σ)))), (8, .int (nI (q_sum σ (10 * fn + en) (((s_ev σ r) / len) * len) (((((s_ev σ r) / len) * len) + len) - 1) (s_n σ)))), (7, .int (nI (((s_ev σ r) / len) * len))), (0, .ref m0), (1, .int (nI fn)), (2, .int (nI en)), (3, .int (nI len)), (5, .int (nI (10 * fn + en)))]) hx hb dX3_greatestTile_103 hl (k := 8) rfl (nv_inc _ 1) (by decide) rfl (fun ls hl => ?_)
                refine lv_goto (tgt := 23) hx hb dX3_greatestTile_106 (by decide) ?_
                exact ih (r + 1) (by omega) (by omega) ls (by rw [show q_gt σ (10 * fn + en) len (r + 1) = q_sum σ (10 * fn + en) (((s_ev σ r) / len) * len) (((((s_ev σ r) / len) * len) + len) - 1) (s_n σ) from by simp only [q_gt, show q_its σ (10 * fn + en) len r = q_sum σ (10 * fn + en) (((s_ev σ r) / len) * len) (((((s_ev σ r) / len) * len) + len) - 1) (s_n σ) from by simp only [q_its]; split <;> first | rfl | omega]; split <;> omega]; exact lv_sub hl [4, 5, 6, 7, 1, 8, 0] rfl)
    exact hlp (s_n σ + 1) 0 (Nat.zero_le _) (by omega) ls (lv_sub hl [3, 4, 5, 6, 2, 1, 0] rfl)
  · cases e_1
    have hP : va_P dD vwCl (mW cI m0 a 1 σ) H1 := by rw [← ht_]; exact hB_
    have hD : va_D A (mW cI m0 a 1 σ) := va_D_fst hD rfl
    refine nv_if_eq (tgt := 109) hx hb dX3_greatestTile_10 (by decide) (by decide) (fun c_10 => ?_) (fun c_10 => absurd c_10 (by decide))
    refine lv_iload hx hb dX3_greatestTile_109 (lv_at hl 0 rfl) ?_
    exact W.iret (v := nI 0) hx hb hr (fun u9 hu9 hW => ⟨⟨nI 0, (1, σ), rfl, Or.inr (Or.inl ⟨hc_, rfl⟩), by have h9 := hP; rw [← hu9] at h9; exact h9⟩, hS.F hu9⟩) hS.2.2 dX3_greatestTile_111

set_option maxHeartbeats 4000000 in
set_option maxRecDepth 100000 in
theorem c_X3_tiles (l : Launch) (dD : va_G) (cI cR cS : ClassId) (lo : Nat) (sz : Nat) (hlo : lo ≤ sz) (m0 : Nat) (a : Nat → Nat) (th : Nat) (σ : St) (hI : sI σ) (f e x : Int32) : Met l yX3_tiles wsX3_tiles ({ frames := 3, cells := 0, slots := 0, locals := 66 }) (ePc dD cI cR cS lo [.ref m0, .int f, .int e, .int x] (fun H => H.size = sz ∧ va_P dD vwCl (mW cI m0 a th σ) H ∧ va_D (fun q => lo ≤ q) (mW cI m0 a th σ))) (va_Qi (fun (r : Int32) (u : Nat × St) => R3 (okP f e ∧ rg x 1 10000) True σ σ (nI (q_tl σ (plN f e) (cl x) (s_n σ))) r u) (fun u t => va_P dD vwCl (mW cI m0 a u.1 u.2) t.heap) (va_A (mW cI m0 a th σ) sz)) 0 0 (va_A (mW cI m0 a th σ) sz) := by
  refine Met.ofW (cc := cX3_tiles) (maxL := 6) (ret := (some .int)) (by decide) rfl ?_
  intro p e_ s m args below meth c s₁ B hml hv
  obtain ⟨rfl, hE, hsz, hP, hD0⟩ := hv
  have hx := B.exec
  have hb := B.bytes
  have hr := B.returns
  have hts := atoms_spec (ws := wsX3_tiles) B.pre
  have hown : s.vm.findClass RX3 = some m.cls := findClass_of_methodNamed B.named
  have hlocks := B.notSynchronized
  have hK := hE.1.1
  have hinX3 : ∀ w ∈ u_ws RX3 TX3 14, w ∈ wsX3_tiles := by decide +kernel
  subst hsz
  have hD := hD0.self (sz := s.heap.size)
  have hAlo : ∀ q, va_A (mW cI m0 a th σ) s.heap.size q → lo ≤ q := eA_lo hD0 hlo
  generalize hAe : va_A (mW cI m0 a th σ) s.heap.size = A at hD hAlo ⊢
  have hA : ∀ q : Nat, s.heap.size ≤ q → A q := fun q h => by rw [← hAe]; exact Or.inr h
  have hS : va_S A s.heap s.heap [] := va_S.rf
  have hP : va_P dD vwCl (mW cI m0 a th σ) s.heap := hP
  obtain ⟨i_now, i_n, i_tk, i_k, i_lt, i_row, i_cp, i_srv⟩ := id hI
  have hl := lv_entry ([.ref m0, .int f, .int e, .int x]) (n := 6) (Nat.le_of_ble_eq_true rfl)
  rw [lg_entry_eq]
  generalize (lg_sl ([.ref m0, .int f, .int e, .int x]) ++ List.replicate (6 - (lg_sl ([.ref m0, .int f, .int e, .int x])).length) Slot.unset).toArray = ls at hl ⊢
  have hl : lv_has ls 6 [(0, .ref m0), (1, .int f), (2, .int e), (3, .int x)] := hl
  refine lv_iconst (v := nI 0) hx hb dX3_tiles_0 (by decide +kernel) ?_
  refine lv_istore (lv' := [(4, .int (nI 0)), (0, .ref m0), (1, .int f), (2, .int e), (3, .int x)]) hx hb dX3_tiles_1 hl (by decide) rfl (fun ls hl => ?_)
  refine lv_aload_n hx hb dX3_tiles_3 rfl (lv_at hl 1 rfl) ?_
  refine lv_iload_n hx hb dX3_tiles_4 rfl (lv_at hl 2 rfl) ?_
  refine lv_iload_n hx hb dX3_tiles_5 rfl (lv_at hl 3 rfl) ?_
  refine lv_iload_n hx hb dX3_tiles_6 rfl (lv_at hl 4 rfl) ?_
  have hFc := va_free (wc := (mW cI m0 a th σ)) hD hS hA [0, 1, 2, 3, 4, 5, 6, 7, 8, 9] rfl
  refine va_calli (va_runV (As := [.int f, .int e, .int x]) (rest := []) ⟨hx, hb, hml, hown, hts⟩ (c_X3_asksTiles l dD cI cR cS lo s.heap.size (Nat.le_trans hlo hS.1) m0 a th σ hI f e x) (cwV 3 hts gX3_tiles_X3_asksTiles rfl rfl rfl (by decide +kernel) ⟨Nat.le_of_ble_eq_true rfl, Nat.le_of_ble_eq_true rfl⟩) (ePreV hE (hS.mono hAlo) hP (k := 0) rfl rfl ⟨rfl, hP, va_D_fst hD0 rfl⟩) rfl rfl hl.1 rfl (lv_room (Nat.le_of_ble_eq_true rfl)) dX3_tiles_7 ⟨Nat.le_of_ble_eq_true rfl, Nat.le_of_ble_eq_true rfl⟩) hS (fun q _ h => hFc q h) hFc (fun r_7 u_ t_ H1 locs ht_ hvm_ hw_7 hB_ hz_ hk_ hS => ?_)
  obtain ⟨th_, σ_⟩ := u_
  rcases hw_7 with ⟨hc_, e_1, rfl⟩ | ⟨hc_, e_1, rfl⟩
  · cases e_1
    have hP : va_P dD vwCl (mW cI m0 a 0 σ) H1 := by rw [← ht_]; exact hB_
    have hD : va_D A (mW cI m0 a 0 σ) := va_D_fst hD rfl
    obtain ⟨fn, hfn1, hfn2, rfl⟩ := rg_of (by decide) (by decide) (hc_.1.1)
    obtain ⟨en, hen1, hen2, rfl⟩ := rg_of (by decide) (by decide) (hc_.1.2)
    obtain ⟨len, hlen1, hlen2, rfl⟩ := rg_of (by decide) (by decide) (hc_.2)
    refine nv_if_eq (tgt := 66) hx hb dX3_tiles_10 (by decide) (by decide) (fun c_10 => absurd c_10 (by decide)) (fun c_10 => ?_)
    refine lv_iconst (v := nI 0) hx hb dX3_tiles_13 (by decide +kernel) ?_
    refine lv_istore (lv' := [(5, .int (nI 0)), (4, .int (nI 0)), (0, .ref m0), (1, .int (nI fn)), (2, .int (nI en)), (3, .int (nI len))]) hx hb dX3_tiles_14 hl (by decide) rfl (fun ls hl => ?_)
    have hlp : ∀ (d : Nat) (r : Nat), r ≤ s_n σ → s_n σ < r + d → ∀ (ls : Array Slot), lv_has ls 6 [(0, .ref m0), (1, .int (nI fn)), (2, .int (nI en)), (3, .int (nI len)), (4, .int (nI (q_tl σ (10 * fn + en) len r))), (5, .int (nI r))] → W p l e_ (headSpec wsX3_tiles ({ frames := 3, cells := 0, slots := 0, locals := 66 })).room s m (([.ref m0, .int (nI fn), .int (nI en), .int (nI len)] : List Value).toArray) below meth c H1 locs 0 0 (MQ below (va_Qi (fun (r : Int32) (u : Nat × St) => R3 (okP (nI fn) (nI en) ∧ rg (nI len) 1 10000) True σ σ (nI (q_tl σ (plN (nI fn) (nI en)) (cl (nI len)) (s_n σ))) r u) (fun u t => va_P dD vwCl (mW cI m0 a u.1 u.2) t.heap) A) (([.ref m0, .int (nI fn), .int (nI en), .int (nI len)] : List Value).toArray) s 0 0 A) (F0 m 16 ls []) := by
      intro d
      induction d with
      | zero =>
        intro r hr1 hr2 ls hl
        exact absurd hr2 (by omega)
      | succ d ih =>
        intro r hr1 hr2 ls hl
        refine lv_iload hx hb dX3_tiles_16 (lv_at hl 5 rfl) ?_
        refine lv_aload_n hx hb dX3_tiles_18 rfl (lv_at hl 0 rfl) ?_
        refine va_get (D := dD) (ci := 3) (v := .int (nI (s_n σ))) (C := RX3) (T := TX3) (N := 14) hx hb hts hinX3 hown hK hP 0 rfl rfl 3 (by decide) (hts (.fieldLink RX3 53 "FeatureStoreModel" "rows" "I") (by decide +kernel)) (fun _ h9 => h9) rfl dX3_tiles_19 ?_
        refine nv_ge (tgt := 66) hx hb dX3_tiles_22 (by decide) (by omega) (by omega) (fun c_22 => ?_) (fun c_22 => ?_)
        · have hre : r = s_n σ := by omega
          subst hre
          have hl : lv_has ls 6 [(4, .int (nI (q_tl σ (10 * fn + en) len (s_n σ))))] := lv_sub hl [4] rfl
          refine lv_iload hx hb dX3_tiles_66 (lv_at hl 0 rfl) ?_
          exact W.iret (v := nI (q_tl σ (10 * fn + en) len (s_n σ))) hx hb hr (fun u9 hu9 hW => ⟨⟨nI (q_tl σ (10 * fn + en) len (s_n σ)), (0, σ), rfl, Or.inl ⟨hc_, trivial, rfl, by rw [plN, cl_nI (by omega), cl_nI (by omega), cl_nI (by omega)]⟩, by have h9 := hP; rw [← hu9] at h9; exact h9⟩, hS.F hu9⟩) hS.2.2 dX3_tiles_68
        · have hz_r : r < s_n σ := by omega
          obtain ⟨hz_1, hz_2, hz_3, hz_4⟩ := i_row r hz_r
          have hz_f := q_fst_01 σ len r r
          refine lv_iload hx hb dX3_tiles_25 (lv_at hl 4 rfl) ?_
          refine lv_aload_n hx hb dX3_tiles_27 rfl (lv_at hl 0 rfl) ?_
          refine va_get (D := dD) (ci := 3) (v := .ref (a 1)) (C := RX3) (T := TX3) (N := 14) hx hb hts hinX3 hown hK hP 0 rfl rfl 4 (by decide) (hts (.fieldLink RX3 13 "FeatureStoreModel" "pair" "[I") (by decide +kernel)) (fun _ h9 => h9) rfl dX3_tiles_28 ?_
          refine lv_iload hx hb dX3_tiles_31 (lv_at hl 5 rfl) ?_
          refine nv_iald (q0 := 2) (t0 := 0) (s_pr σ) hx hb hK hP rfl rfl (by omega) (by decide) dX3_tiles_33 ?_
          refine lv_iload_n hx hb dX3_tiles_34 rfl (lv_at hl 1 rfl) ?_
          refine lv_iload_n hx hb dX3_tiles_35 rfl (lv_at hl 2 rfl) ?_
          refine vp_callSi (va_Run.run (va_runS (As := [.int (nI fn), .int (nI en)]) (rest := [.int (nI (s_pr σ r)), .int (nI (q_tl σ (10 * fn + en) len r))]) ⟨hx, hb, hml, hown, hts⟩ (c_X3_pairOf l dD cI cR cS lo fn en) (va_cwS 2 hts gX3_tiles_X3_pairOf rfl rfl rfl (by decide +kernel) ⟨Nat.le_of_ble_eq_true rfl, Nat.le_of_ble_eq_true rfl⟩) (ePreS hE (hS.mono hAlo) trivial) rfl rfl hl.1 rfl (lv_room (Nat.le_of_ble_eq_true rfl)) dX3_tiles_36 ⟨Nat.le_of_ble_eq_true rfl, Nat.le_of_ble_eq_true rfl⟩)) (fun r_36 hr_36 => ?_)
          subst hr_36
          refine nv_ne (tgt := 56) hx hb dX3_tiles_39 (by decide) (by omega) (by omega) (fun c_39 => ?_) (fun c_39 => ?_)
          · refine lv_iconst (v := nI 0) hx hb dX3_tiles_56 (by decide +kernel) ?_
            refine nv_iadd hx hb dX3_tiles_57 ?_
            refine lv_istore (lv' := [(4, .int (nI ((q_tl σ (10 * fn + en) len r) + 0))), (0, .ref m0), (1, .int (nI fn)), (2, .int (nI en)), (3, .int (nI len)), (5, .int (nI r))]) hx hb dX3_tiles_58 hl (by decide) rfl (fun ls hl => ?_)
            refine lv_iinc (v := nI (r + 1)) (lv' := [(5, .int (nI (r + 1))), (4, .int (nI ((q_tl σ (10 * fn + en) len r) + 0))), (0, .ref m0), (1, .int (nI fn)), (2, .int (nI en)), (3, .int (nI len))]) hx hb dX3_tiles_60 hl (k := 5) rfl (nv_inc _ 1) (by decide) rfl (fun ls hl => ?_)
            refine lv_goto (tgt := 16) hx hb dX3_tiles_63 (by decide) ?_
            exact ih (r + 1) (by omega) (by omega) ls (by rw [show q_tl σ (10 * fn + en) len (r + 1) = (q_tl σ (10 * fn + en) len r) + 0 from by simp only [q_tl]; split <;> omega]; exact lv_sub hl [2, 3, 4, 5, 1, 0] rfl)
          · refine lv_aload_n hx hb dX3_tiles_42 rfl (lv_at hl 0 rfl) ?_
            refine lv_iload hx hb dX3_tiles_43 (lv_at hl 5 rfl) ?_
            refine lv_iload_n hx hb dX3_tiles_45 rfl (lv_at hl 3 rfl) ?_
            refine vp_callSi (va_Run.run (va_runV (As := [.int (nI r), .int (nI len)]) (rest := [.int (nI (q_tl σ (10 * fn + en) len r))]) ⟨hx, hb, hml, hown, hts⟩ (c_X3_isFirst l dD cI cR cS lo m0 a 0 σ hI (r) (len) (by omega) (by omega) (by omega)) (cwV 2 hts gX3_tiles_X3_isFirst rfl rfl rfl (by decide +kernel) ⟨Nat.le_of_ble_eq_true rfl, Nat.le_of_ble_eq_true rfl⟩) (ePreV hE (hS.mono hAlo) hP (k := 0) rfl rfl hP) rfl rfl hl.1 rfl (lv_room (Nat.le_of_ble_eq_true rfl)) dX3_tiles_46 ⟨Nat.le_of_ble_eq_true rfl, Nat.le_of_ble_eq_true rfl⟩)) (fun r_46 hr_46 => ?_)
            subst hr_46
            refine nv_if_eq (tgt := 56) hx hb dX3_tiles_49 (by decide) (by omega) (fun c_49 => ?_) (fun c_49 => ?_)
            · refine lv_iconst (v := nI 0) hx hb dX3_tiles_56 (by decide +kernel) ?_
              refine nv_iadd hx hb dX3_tiles_57 ?_
              refine lv_istore (lv' := [(4, .int (nI ((q_tl σ (10 * fn + en) len r) + 0))), (0, .ref m0), (1, .int (nI fn)), (2, .int (nI en)), (3, .int (nI len)), (5, .int (nI r))]) hx hb dX3_tiles_58 hl (by decide) rfl (fun ls hl => ?_)
              refine lv_iinc (v := nI (r + 1)) (lv' := [(5, .int (nI (r + 1))), (4, .int (nI ((q_tl σ (10 * fn + en) len r) + 0))), (0, .ref m0), (1, .int (nI fn)), (2, .int (nI en)), (3, .int (nI len))]) hx hb dX3_tiles_60 hl (k := 5) rfl (nv_inc _ 1) (by decide) rfl (fun ls hl => ?_)
              refine lv_goto (tgt := 16) hx hb dX3_tiles_63 (by decide) ?_
              exact ih (r + 1) (by omega) (by omega) ls (by rw [show q_tl σ (10 * fn + en) len (r + 1) = (q_tl σ (10 * fn + en) len r) + 0 from by simp only [q_tl]; split <;> omega]; exact lv_sub hl [2, 3, 4, 5, 1, 0] rfl)
            · refine lv_iconst (v := nI 1) hx hb dX3_tiles_52 (by decide +kernel) ?_
              refine lv_goto (tgt := 57) hx hb dX3_tiles_53 (by decide) ?_
              refine nv_iadd hx hb dX3_tiles_57 ?_
              refine lv_istore (lv' := [(4, .int (nI ((q_tl σ (10 * fn + en) len r) + 1))), (0, .ref m0), (1, .int (nI fn)), (2, .int (nI en)), (3, .int (nI len)), (5, .int (nI r))]) hx hb dX3_tiles_58 hl (by decide) rfl (fun ls hl => ?_)
              refine lv_iinc (v := nI (r + 1)) (lv' := [(5, .int (nI (r + 1))), (4, .int (nI ((q_tl σ (10 * fn + en) len r) + 1))), (0, .ref m0), (1, .int (nI fn)), (2, .int (nI en)), (3, .int (nI len))]) hx hb dX3_tiles_60 hl (k := 5) rfl (nv_inc _ 1) (by decide) rfl (fun ls hl => ?_)
              refine lv_goto (tgt := 16) hx hb dX3_tiles_63 (by decide) ?_
              exact ih (r + 1) (by omega) (by omega) ls (by rw [show q_tl σ (10 * fn + en) len (r + 1) = (q_tl σ (10 * fn + en) len r) + 1 from by simp only [q_tl]; split <;> omega]; exact lv_sub hl [2, 3, 4, 5, 1, 0] rfl)
    exact hlp (s_n σ + 1) 0 (Nat.zero_le _) (by omega) ls (lv_sub hl [2, 3, 4, 5, 1, 0] rfl)
  · cases e_1
    have hP : va_P dD vwCl (mW cI m0 a 1 σ) H1 := by rw [← ht_]; exact hB_
    have hD : va_D A (mW cI m0 a 1 σ) := va_D_fst hD rfl
    refine nv_if_eq (tgt := 66) hx hb dX3_tiles_10 (by decide) (by decide) (fun c_10 => ?_) (fun c_10 => absurd c_10 (by decide))
    refine lv_iload hx hb dX3_tiles_66 (lv_at hl 0 rfl) ?_
    exact W.iret (v := nI 0) hx hb hr (fun u9 hu9 hW => ⟨⟨nI 0, (1, σ), rfl, Or.inr (Or.inl ⟨hc_, rfl⟩), by have h9 := hP; rw [← hu9] at h9; exact h9⟩, hS.F hu9⟩) hS.2.2 dX3_tiles_68
