/-! the reference: the methods that write, first half (laid by wip/whole/gen/x3wr.py) -/
set_option maxHeartbeats 4000000 in
set_option maxRecDepth 100000 in
theorem c_X3_thrown (l : Launch) (dD : va_G) (cI cR cS : ClassId) (lo : Nat) (sz : Nat) (hlo : lo ≤ sz) (m0 : Nat) (a : Nat → Nat) (th : Nat) (σ : St) (hI : sI σ)  : Met l yX3_thrown wsX3_thrown ({ frames := 0, cells := 0, slots := 0, locals := 0 }) (ePc dD cI cR cS lo [.ref m0] (fun H => H.size = sz ∧ va_P dD vwCl (mW cI m0 a th σ) H ∧ va_D (fun q => lo ≤ q) (mW cI m0 a th σ))) (va_Qi (fun (r : Int32) (u : Nat × St) => u = (th, σ) ∧ r = nI th) (fun u t => va_P dD vwCl (mW cI m0 a u.1 u.2) t.heap) (va_A (mW cI m0 a th σ) sz)) 0 0 (va_A (mW cI m0 a th σ) sz) := by
  refine Met.ofW (cc := cX3_thrown) (maxL := 1) (ret := (some .int)) (by decide) rfl ?_
  intro p e_ s m args below meth c s₁ B hml hv
  obtain ⟨rfl, hE, hsz, hP, hD0⟩ := hv
  have hx := B.exec
  have hb := B.bytes
  have hr := B.returns
  have hts := atoms_spec (ws := wsX3_thrown) B.pre
  have hown : s.vm.findClass RX3 = some m.cls := findClass_of_methodNamed B.named
  have hlocks := B.notSynchronized
  have hK := hE.1.1
  have hinX3 : ∀ w ∈ u_ws RX3 TX3 14, w ∈ wsX3_thrown := by decide +kernel
  subst hsz
  have hD := hD0.self (sz := s.heap.size)
  have hAlo : ∀ q, va_A (mW cI m0 a th σ) s.heap.size q → lo ≤ q := eA_lo hD0 hlo
  generalize hAe : va_A (mW cI m0 a th σ) s.heap.size = A at hD hAlo ⊢
  have hA : ∀ q : Nat, s.heap.size ≤ q → A q := fun q h => by rw [← hAe]; exact Or.inr h
  have hS : va_S A s.heap s.heap [] := va_S.rf
  have hP : va_P dD vwCl (mW cI m0 a th σ) s.heap := hP
  obtain ⟨i_now, i_n, i_tk, i_k, i_lt, i_row, i_cp, i_srv⟩ := id hI
  have hl := lv_entry ([.ref m0]) (n := 1) (Nat.le_of_ble_eq_true rfl)
  rw [lg_entry_eq]
  generalize (lg_sl ([.ref m0]) ++ List.replicate (1 - (lg_sl ([.ref m0])).length) Slot.unset).toArray = ls at hl ⊢
  have hl : lv_has ls 1 [(0, .ref m0)] := hl
  refine lv_aload_n hx hb dX3_thrown_0 rfl (lv_at hl 0 rfl) ?_
  refine va_get (D := dD) (ci := 3) (v := .int (nI th)) (C := RX3) (T := TX3) (N := 14) hx hb hts hinX3 hown hK hP 0 rfl rfl 0 (by decide) (hts (.fieldLink RX3 37 "FeatureStoreModel" "thrown" "I") (by decide +kernel)) (fun _ h9 => h9) rfl dX3_thrown_1 ?_
  exact W.iret (v := nI th) hx hb hr (fun u9 hu9 hW => ⟨⟨nI th, (th, σ), rfl, ⟨rfl, rfl⟩, by have h9 := hP; rw [← hu9] at h9; exact h9⟩, hS.F hu9⟩) hS.2.2 dX3_thrown_4

set_option maxHeartbeats 4000000 in
set_option maxRecDepth 100000 in
theorem c_X3_now (l : Launch) (dD : va_G) (cI cR cS : ClassId) (lo : Nat) (sz : Nat) (hlo : lo ≤ sz) (m0 : Nat) (a : Nat → Nat) (th : Nat) (σ : St) (hI : sI σ)  : Met l yX3_now wsX3_now ({ frames := 0, cells := 0, slots := 0, locals := 0 }) (ePc dD cI cR cS lo [.ref m0] (fun H => H.size = sz ∧ va_P dD vwCl (mW cI m0 a th σ) H ∧ va_D (fun q => lo ≤ q) (mW cI m0 a th σ))) (va_Qi (fun (r : Int32) (u : Nat × St) => u = (0, σ) ∧ r = nI (s_now σ)) (fun u t => va_P dD vwCl (mW cI m0 a u.1 u.2) t.heap) (va_A (mW cI m0 a th σ) sz)) 0 0 (va_A (mW cI m0 a th σ) sz) := by
  refine Met.ofW (cc := cX3_now) (maxL := 1) (ret := (some .int)) (by decide) rfl ?_
  intro p e_ s m args below meth c s₁ B hml hv
  obtain ⟨rfl, hE, hsz, hP, hD0⟩ := hv
  have hx := B.exec
  have hb := B.bytes
  have hr := B.returns
  have hts := atoms_spec (ws := wsX3_now) B.pre
  have hown : s.vm.findClass RX3 = some m.cls := findClass_of_methodNamed B.named
  have hlocks := B.notSynchronized
  have hK := hE.1.1
  have hinX3 : ∀ w ∈ u_ws RX3 TX3 14, w ∈ wsX3_now := by decide +kernel
  subst hsz
  have hD := hD0.self (sz := s.heap.size)
  have hAlo : ∀ q, va_A (mW cI m0 a th σ) s.heap.size q → lo ≤ q := eA_lo hD0 hlo
  generalize hAe : va_A (mW cI m0 a th σ) s.heap.size = A at hD hAlo ⊢
  have hA : ∀ q : Nat, s.heap.size ≤ q → A q := fun q h => by rw [← hAe]; exact Or.inr h
  have hS : va_S A s.heap s.heap [] := va_S.rf
  have hP : va_P dD vwCl (mW cI m0 a th σ) s.heap := hP
  obtain ⟨i_now, i_n, i_tk, i_k, i_lt, i_row, i_cp, i_srv⟩ := id hI
  have hl := lv_entry ([.ref m0]) (n := 1) (Nat.le_of_ble_eq_true rfl)
  rw [lg_entry_eq]
  generalize (lg_sl ([.ref m0]) ++ List.replicate (1 - (lg_sl ([.ref m0])).length) Slot.unset).toArray = ls at hl ⊢
  have hl : lv_has ls 1 [(0, .ref m0)] := hl
  refine lv_aload_n hx hb dX3_now_0 rfl (lv_at hl 0 rfl) ?_
  refine lv_iconst (v := nI 0) hx hb dX3_now_1 (by decide +kernel) ?_
  refine va_put (D := dD) (ci := 3) (v := .int (nI 0)) (ty := .int) (C := RX3) (T := TX3) (N := 14) hx hb hts hinX3 tyX3 tyX3_ok nmX3 hown hK hP hD hS 0 rfl rfl 0 (by decide) (hts (.fieldLink RX3 37 "FeatureStoreModel" "thrown" "I") (by decide +kernel)) (fun _ h9 => h9) rfl (by decide +kernel) rfl rfl (Nat.le_of_ble_eq_true rfl) dX3_now_2 (fun H locs hP hD hS => ?_)
  have hP : va_P dD vwCl [(m0, .inr (3, [.int (nI 0), .int (nI (s_now σ)), .ref (a 0), .int (nI (s_n σ)), .ref (a 1), .ref (a 2), .ref (a 3), .ref (a 4), .int (nI (s_tk σ)), .ref (a 5), .int (nI (s_k σ)), .ref (a 6), .ref (a 7), .ref (a 8)])), (a 0, .inl (cI, 6, .inl (fun j => nI (s_lt σ j)))), (a 1, .inl (cI, 200, .inl (fun j => nI (s_pr σ j)))), (a 2, .inl (cI, 200, .inl (fun j => nI (s_ev σ j)))), (a 3, .inl (cI, 200, .inl (fun j => nI (s_ar σ j)))), (a 4, .inl (cI, 200, .inl (fun j => nI (s_vl σ j)))), (a 5, .inl (cI, 60, .inl (fun j => nI (s_cp σ j)))), (a 6, .inl (cI, 200, .inl (fun j => nI (s_sp σ j)))), (a 7, .inl (cI, 200, .inl (fun j => nI (s_sa σ j)))), (a 8, .inl (cI, 200, .inl (fun j => eN (s_sv σ j))))] H := hP
  have hD : va_D A [(m0, .inr (3, [.int (nI 0), .int (nI (s_now σ)), .ref (a 0), .int (nI (s_n σ)), .ref (a 1), .ref (a 2), .ref (a 3), .ref (a 4), .int (nI (s_tk σ)), .ref (a 5), .int (nI (s_k σ)), .ref (a 6), .ref (a 7), .ref (a 8)])), (a 0, .inl (cI, 6, .inl (fun j => nI (s_lt σ j)))), (a 1, .inl (cI, 200, .inl (fun j => nI (s_pr σ j)))), (a 2, .inl (cI, 200, .inl (fun j => nI (s_ev σ j)))), (a 3, .inl (cI, 200, .inl (fun j => nI (s_ar σ j)))), (a 4, .inl (cI, 200, .inl (fun j => nI (s_vl σ j)))), (a 5, .inl (cI, 60, .inl (fun j => nI (s_cp σ j)))), (a 6, .inl (cI, 200, .inl (fun j => nI (s_sp σ j)))), (a 7, .inl (cI, 200, .inl (fun j => nI (s_sa σ j)))), (a 8, .inl (cI, 200, .inl (fun j => eN (s_sv σ j))))] := hD
  refine lv_aload_n hx hb dX3_now_5 rfl (lv_at hl 0 rfl) ?_
  refine va_get (D := dD) (ci := 3) (v := .int (nI (s_now σ))) (C := RX3) (T := TX3) (N := 14) hx hb hts hinX3 hown hK hP 0 rfl rfl 1 (by decide) (hts (.fieldLink RX3 49 "FeatureStoreModel" "now" "I") (by decide +kernel)) (fun _ h9 => h9) rfl dX3_now_6 ?_
  exact W.iret (v := nI (s_now σ)) hx hb hr (fun u9 hu9 hW => ⟨⟨nI (s_now σ), (0, σ), rfl, ⟨rfl, rfl⟩, by have h9 := hP; rw [← hu9] at h9; exact h9⟩, hS.F hu9⟩) hS.2.2 dX3_now_9

set_option maxHeartbeats 4000000 in
set_option maxRecDepth 100000 in
theorem c_X3_rows (l : Launch) (dD : va_G) (cI cR cS : ClassId) (lo : Nat) (sz : Nat) (hlo : lo ≤ sz) (m0 : Nat) (a : Nat → Nat) (th : Nat) (σ : St) (hI : sI σ)  : Met l yX3_rows wsX3_rows ({ frames := 0, cells := 0, slots := 0, locals := 0 }) (ePc dD cI cR cS lo [.ref m0] (fun H => H.size = sz ∧ va_P dD vwCl (mW cI m0 a th σ) H ∧ va_D (fun q => lo ≤ q) (mW cI m0 a th σ))) (va_Qi (fun (r : Int32) (u : Nat × St) => u = (0, σ) ∧ r = nI (s_n σ)) (fun u t => va_P dD vwCl (mW cI m0 a u.1 u.2) t.heap) (va_A (mW cI m0 a th σ) sz)) 0 0 (va_A (mW cI m0 a th σ) sz) := by
  refine Met.ofW (cc := cX3_rows) (maxL := 1) (ret := (some .int)) (by decide) rfl ?_
  intro p e_ s m args below meth c s₁ B hml hv
  obtain ⟨rfl, hE, hsz, hP, hD0⟩ := hv
  have hx := B.exec
  have hb := B.bytes
  have hr := B.returns
  have hts := atoms_spec (ws := wsX3_rows) B.pre
  have hown : s.vm.findClass RX3 = some m.cls := findClass_of_methodNamed B.named
  have hlocks := B.notSynchronized
  have hK := hE.1.1
  have hinX3 : ∀ w ∈ u_ws RX3 TX3 14, w ∈ wsX3_rows := by decide +kernel
  subst hsz
  have hD := hD0.self (sz := s.heap.size)
  have hAlo : ∀ q, va_A (mW cI m0 a th σ) s.heap.size q → lo ≤ q := eA_lo hD0 hlo
  generalize hAe : va_A (mW cI m0 a th σ) s.heap.size = A at hD hAlo ⊢
  have hA : ∀ q : Nat, s.heap.size ≤ q → A q := fun q h => by rw [← hAe]; exact Or.inr h
  have hS : va_S A s.heap s.heap [] := va_S.rf
  have hP : va_P dD vwCl (mW cI m0 a th σ) s.heap := hP
  obtain ⟨i_now, i_n, i_tk, i_k, i_lt, i_row, i_cp, i_srv⟩ := id hI
  have hl := lv_entry ([.ref m0]) (n := 1) (Nat.le_of_ble_eq_true rfl)
  rw [lg_entry_eq]
  generalize (lg_sl ([.ref m0]) ++ List.replicate (1 - (lg_sl ([.ref m0])).length) Slot.unset).toArray = ls at hl ⊢
  have hl : lv_has ls 1 [(0, .ref m0)] := hl
  refine lv_aload_n hx hb dX3_rows_0 rfl (lv_at hl 0 rfl) ?_
  refine lv_iconst (v := nI 0) hx hb dX3_rows_1 (by decide +kernel) ?_
  refine va_put (D := dD) (ci := 3) (v := .int (nI 0)) (ty := .int) (C := RX3) (T := TX3) (N := 14) hx hb hts hinX3 tyX3 tyX3_ok nmX3 hown hK hP hD hS 0 rfl rfl 0 (by decide) (hts (.fieldLink RX3 37 "FeatureStoreModel" "thrown" "I") (by decide +kernel)) (fun _ h9 => h9) rfl (by decide +kernel) rfl rfl (Nat.le_of_ble_eq_true rfl) dX3_rows_2 (fun H locs hP hD hS => ?_)
  have hP : va_P dD vwCl [(m0, .inr (3, [.int (nI 0), .int (nI (s_now σ)), .ref (a 0), .int (nI (s_n σ)), .ref (a 1), .ref (a 2), .ref (a 3), .ref (a 4), .int (nI (s_tk σ)), .ref (a 5), .int (nI (s_k σ)), .ref (a 6), .ref (a 7), .ref (a 8)])), (a 0, .inl (cI, 6, .inl (fun j => nI (s_lt σ j)))), (a 1, .inl (cI, 200, .inl (fun j => nI (s_pr σ j)))), (a 2, .inl (cI, 200, .inl (fun j => nI (s_ev σ j)))), (a 3, .inl (cI, 200, .inl (fun j => nI (s_ar σ j)))), (a 4, .inl (cI, 200, .inl (fun j => nI (s_vl σ j)))), (a 5, .inl (cI, 60, .inl (fun j => nI (s_cp σ j)))), (a 6, .inl (cI, 200, .inl (fun j => nI (s_sp σ j)))), (a 7, .inl (cI, 200, .inl (fun j => nI (s_sa σ j)))), (a 8, .inl (cI, 200, .inl (fun j => eN (s_sv σ j))))] H := hP
  have hD : va_D A [(m0, .inr (3, [.int (nI 0), .int (nI (s_now σ)), .ref (a 0), .int (nI (s_n σ)), .ref (a 1), .ref (a 2), .ref (a 3), .ref (a 4), .int (nI (s_tk σ)), .ref (a 5), .int (nI (s_k σ)), .ref (a 6), .ref (a 7), .ref (a 8)])), (a 0, .inl (cI, 6, .inl (fun j => nI (s_lt σ j)))), (a 1, .inl (cI, 200, .inl (fun j => nI (s_pr σ j)))), (a 2, .inl (cI, 200, .inl (fun j => nI (s_ev σ j)))), (a 3, .inl (cI, 200, .inl (fun j => nI (s_ar σ j)))), (a 4, .inl (cI, 200, .inl (fun j => nI (s_vl σ j)))), (a 5, .inl (cI, 60, .inl (fun j => nI (s_cp σ j)))), (a 6, .inl (cI, 200, .inl (fun j => nI (s_sp σ j)))), (a 7, .inl (cI, 200, .inl (fun j => nI (s_sa σ j)))), (a 8, .inl (cI, 200, .inl (fun j => eN (s_sv σ j))))] := hD
  refine lv_aload_n hx hb dX3_rows_5 rfl (lv_at hl 0 rfl) ?_
  refine va_get (D := dD) (ci := 3) (v := .int (nI (s_n σ))) (C := RX3) (T := TX3) (N := 14) hx hb hts hinX3 hown hK hP 0 rfl rfl 3 (by decide) (hts (.fieldLink RX3 53 "FeatureStoreModel" "rows" "I") (by decide +kernel)) (fun _ h9 => h9) rfl dX3_rows_6 ?_
  exact W.iret (v := nI (s_n σ)) hx hb hr (fun u9 hu9 hW => ⟨⟨nI (s_n σ), (0, σ), rfl, ⟨rfl, rfl⟩, by have h9 := hP; rw [← hu9] at h9; exact h9⟩, hS.F hu9⟩) hS.2.2 dX3_rows_9

set_option maxHeartbeats 4000000 in
set_option maxRecDepth 100000 in
theorem c_X3_servings (l : Launch) (dD : va_G) (cI cR cS : ClassId) (lo : Nat) (sz : Nat) (hlo : lo ≤ sz) (m0 : Nat) (a : Nat → Nat) (th : Nat) (σ : St) (hI : sI σ)  : Met l yX3_servings wsX3_servings ({ frames := 0, cells := 0, slots := 0, locals := 0 }) (ePc dD cI cR cS lo [.ref m0] (fun H => H.size = sz ∧ va_P dD vwCl (mW cI m0 a th σ) H ∧ va_D (fun q => lo ≤ q) (mW cI m0 a th σ))) (va_Qi (fun (r : Int32) (u : Nat × St) => u = (0, σ) ∧ r = nI (s_k σ)) (fun u t => va_P dD vwCl (mW cI m0 a u.1 u.2) t.heap) (va_A (mW cI m0 a th σ) sz)) 0 0 (va_A (mW cI m0 a th σ) sz) := by
  refine Met.ofW (cc := cX3_servings) (maxL := 1) (ret := (some .int)) (by decide) rfl ?_
  intro p e_ s m args below meth c s₁ B hml hv
  obtain ⟨rfl, hE, hsz, hP, hD0⟩ := hv
  have hx := B.exec
  have hb := B.bytes
  have hr := B.returns
  have hts := atoms_spec (ws := wsX3_servings) B.pre
  have hown : s.vm.findClass RX3 = some m.cls := findClass_of_methodNamed B.named
  have hlocks := B.notSynchronized
  have hK := hE.1.1
  have hinX3 : ∀ w ∈ u_ws RX3 TX3 14, w ∈ wsX3_servings := by decide +kernel
  subst hsz
  have hD := hD0.self (sz := s.heap.size)
  have hAlo : ∀ q, va_A (mW cI m0 a th σ) s.heap.size q → lo ≤ q := eA_lo hD0 hlo
  generalize hAe : va_A (mW cI m0 a th σ) s.heap.size = A at hD hAlo ⊢
  have hA : ∀ q : Nat, s.heap.size ≤ q → A q := fun q h => by rw [← hAe]; exact Or.inr h
  have hS : va_S A s.heap s.heap [] := va_S.rf
  have hP : va_P dD vwCl (mW cI m0 a th σ) s.heap := hP
  obtain ⟨i_now, i_n, i_tk, i_k, i_lt, i_row, i_cp, i_srv⟩ := id hI
  have hl := lv_entry ([.ref m0]) (n := 1) (Nat.le_of_ble_eq_true rfl)
  rw [lg_entry_eq]
  generalize (lg_sl ([.ref m0]) ++ List.replicate (1 - (lg_sl ([.ref m0])).length) Slot.unset).toArray = ls at hl ⊢
  have hl : lv_has ls 1 [(0, .ref m0)] := hl
  refine lv_aload_n hx hb dX3_servings_0 rfl (lv_at hl 0 rfl) ?_
  refine lv_iconst (v := nI 0) hx hb dX3_servings_1 (by decide +kernel) ?_
  refine va_put (D := dD) (ci := 3) (v := .int (nI 0)) (ty := .int) (C := RX3) (T := TX3) (N := 14) hx hb hts hinX3 tyX3 tyX3_ok nmX3 hown hK hP hD hS 0 rfl rfl 0 (by decide) (hts (.fieldLink RX3 37 "FeatureStoreModel" "thrown" "I") (by decide +kernel)) (fun _ h9 => h9) rfl (by decide +kernel) rfl rfl (Nat.le_of_ble_eq_true rfl) dX3_servings_2 (fun H locs hP hD hS => ?_)
  have hP : va_P dD vwCl [(m0, .inr (3, [.int (nI 0), .int (nI (s_now σ)), .ref (a 0), .int (nI (s_n σ)), .ref (a 1), .ref (a 2), .ref (a 3), .ref (a 4), .int (nI (s_tk σ)), .ref (a 5), .int (nI (s_k σ)), .ref (a 6), .ref (a 7), .ref (a 8)])), (a 0, .inl (cI, 6, .inl (fun j => nI (s_lt σ j)))), (a 1, .inl (cI, 200, .inl (fun j => nI (s_pr σ j)))), (a 2, .inl (cI, 200, .inl (fun j => nI (s_ev σ j)))), (a 3, .inl (cI, 200, .inl (fun j => nI (s_ar σ j)))), (a 4, .inl (cI, 200, .inl (fun j => nI (s_vl σ j)))), (a 5, .inl (cI, 60, .inl (fun j => nI (s_cp σ j)))), (a 6, .inl (cI, 200, .inl (fun j => nI (s_sp σ j)))), (a 7, .inl (cI, 200, .inl (fun j => nI (s_sa σ j)))), (a 8, .inl (cI, 200, .inl (fun j => eN (s_sv σ j))))] H := hP
  have hD : va_D A [(m0, .inr (3, [.int (nI 0), .int (nI (s_now σ)), .ref (a 0), .int (nI (s_n σ)), .ref (a 1), .ref (a 2), .ref (a 3), .ref (a 4), .int (nI (s_tk σ)), .ref (a 5), .int (nI (s_k σ)), .ref (a 6), .ref (a 7), .ref (a 8)])), (a 0, .inl (cI, 6, .inl (fun j => nI (s_lt σ j)))), (a 1, .inl (cI, 200, .inl (fun j => nI (s_pr σ j)))), (a 2, .inl (cI, 200, .inl (fun j => nI (s_ev σ j)))), (a 3, .inl (cI, 200, .inl (fun j => nI (s_ar σ j)))), (a 4, .inl (cI, 200, .inl (fun j => nI (s_vl σ j)))), (a 5, .inl (cI, 60, .inl (fun j => nI (s_cp σ j)))), (a 6, .inl (cI, 200, .inl (fun j => nI (s_sp σ j)))), (a 7, .inl (cI, 200, .inl (fun j => nI (s_sa σ j)))), (a 8, .inl (cI, 200, .inl (fun j => eN (s_sv σ j))))] := hD
  refine lv_aload_n hx hb dX3_servings_5 rfl (lv_at hl 0 rfl) ?_
  refine va_get (D := dD) (ci := 3) (v := .int (nI (s_k σ))) (C := RX3) (T := TX3) (N := 14) hx hb hts hinX3 hown hK hP 0 rfl rfl 10 (by decide) (hts (.fieldLink RX3 83 "FeatureStoreModel" "servings" "I") (by decide +kernel)) (fun _ h9 => h9) rfl dX3_servings_6 ?_
  exact W.iret (v := nI (s_k σ)) hx hb hr (fun u9 hu9 hW => ⟨⟨nI (s_k σ), (0, σ), rfl, ⟨rfl, rfl⟩, by have h9 := hP; rw [← hu9] at h9; exact h9⟩, hS.F hu9⟩) hS.2.2 dX3_servings_9

set_option maxHeartbeats 4000000 in
set_option maxRecDepth 100000 in
theorem c_X3_lag (l : Launch) (dD : va_G) (cI cR cS : ClassId) (lo : Nat) (sz : Nat) (hlo : lo ≤ sz) (m0 : Nat) (a : Nat → Nat) (th : Nat) (σ : St) (hI : sI σ)  : Met l yX3_lag wsX3_lag ({ frames := 0, cells := 0, slots := 0, locals := 0 }) (ePc dD cI cR cS lo [.ref m0] (fun H => H.size = sz ∧ va_P dD vwCl (mW cI m0 a th σ) H ∧ va_D (fun q => lo ≤ q) (mW cI m0 a th σ))) (va_Qi (fun (r : Int32) (u : Nat × St) => u = (0, σ) ∧ r = nI (s_n σ - s_tk σ)) (fun u t => va_P dD vwCl (mW cI m0 a u.1 u.2) t.heap) (va_A (mW cI m0 a th σ) sz)) 0 0 (va_A (mW cI m0 a th σ) sz) := by
  refine Met.ofW (cc := cX3_lag) (maxL := 1) (ret := (some .int)) (by decide) rfl ?_
  intro p e_ s m args below meth c s₁ B hml hv
  obtain ⟨rfl, hE, hsz, hP, hD0⟩ := hv
  have hx := B.exec
  have hb := B.bytes
  have hr := B.returns
  have hts := atoms_spec (ws := wsX3_lag) B.pre
  have hown : s.vm.findClass RX3 = some m.cls := findClass_of_methodNamed B.named
  have hlocks := B.notSynchronized
  have hK := hE.1.1
  have hinX3 : ∀ w ∈ u_ws RX3 TX3 14, w ∈ wsX3_lag := by decide +kernel
  subst hsz
  have hD := hD0.self (sz := s.heap.size)
  have hAlo : ∀ q, va_A (mW cI m0 a th σ) s.heap.size q → lo ≤ q := eA_lo hD0 hlo
  generalize hAe : va_A (mW cI m0 a th σ) s.heap.size = A at hD hAlo ⊢
  have hA : ∀ q : Nat, s.heap.size ≤ q → A q := fun q h => by rw [← hAe]; exact Or.inr h
  have hS : va_S A s.heap s.heap [] := va_S.rf
  have hP : va_P dD vwCl (mW cI m0 a th σ) s.heap := hP
  obtain ⟨i_now, i_n, i_tk, i_k, i_lt, i_row, i_cp, i_srv⟩ := id hI
  have hl := lv_entry ([.ref m0]) (n := 1) (Nat.le_of_ble_eq_true rfl)
  rw [lg_entry_eq]
  generalize (lg_sl ([.ref m0]) ++ List.replicate (1 - (lg_sl ([.ref m0])).length) Slot.unset).toArray = ls at hl ⊢
  have hl : lv_has ls 1 [(0, .ref m0)] := hl
  refine lv_aload_n hx hb dX3_lag_0 rfl (lv_at hl 0 rfl) ?_
  refine lv_iconst (v := nI 0) hx hb dX3_lag_1 (by decide +kernel) ?_
  refine va_put (D := dD) (ci := 3) (v := .int (nI 0)) (ty := .int) (C := RX3) (T := TX3) (N := 14) hx hb hts hinX3 tyX3 tyX3_ok nmX3 hown hK hP hD hS 0 rfl rfl 0 (by decide) (hts (.fieldLink RX3 37 "FeatureStoreModel" "thrown" "I") (by decide +kernel)) (fun _ h9 => h9) rfl (by decide +kernel) rfl rfl (Nat.le_of_ble_eq_true rfl) dX3_lag_2 (fun H locs hP hD hS => ?_)
  have hP : va_P dD vwCl [(m0, .inr (3, [.int (nI 0), .int (nI (s_now σ)), .ref (a 0), .int (nI (s_n σ)), .ref (a 1), .ref (a 2), .ref (a 3), .ref (a 4), .int (nI (s_tk σ)), .ref (a 5), .int (nI (s_k σ)), .ref (a 6), .ref (a 7), .ref (a 8)])), (a 0, .inl (cI, 6, .inl (fun j => nI (s_lt σ j)))), (a 1, .inl (cI, 200, .inl (fun j => nI (s_pr σ j)))), (a 2, .inl (cI, 200, .inl (fun j => nI (s_ev σ j)))), (a 3, .inl (cI, 200, .inl (fun j => nI (s_ar σ j)))), (a 4, .inl (cI, 200, .inl (fun j => nI (s_vl σ j)))), (a 5, .inl (cI, 60, .inl (fun j => nI (s_cp σ j)))), (a 6, .inl (cI, 200, .inl (fun j => nI (s_sp σ j)))), (a 7, .inl (cI, 200, .inl (fun j => nI (s_sa σ j)))), (a 8, .inl (cI, 200, .inl (fun j => eN (s_sv σ j))))] H := hP
  have hD : va_D A [(m0, .inr (3, [.int (nI 0), .int (nI (s_now σ)), .ref (a 0), .int (nI (s_n σ)), .ref (a 1), .ref (a 2), .ref (a 3), .ref (a 4), .int (nI (s_tk σ)), .ref (a 5), .int (nI (s_k σ)), .ref (a 6), .ref (a 7), .ref (a 8)])), (a 0, .inl (cI, 6, .inl (fun j => nI (s_lt σ j)))), (a 1, .inl (cI, 200, .inl (fun j => nI (s_pr σ j)))), (a 2, .inl (cI, 200, .inl (fun j => nI (s_ev σ j)))), (a 3, .inl (cI, 200, .inl (fun j => nI (s_ar σ j)))), (a 4, .inl (cI, 200, .inl (fun j => nI (s_vl σ j)))), (a 5, .inl (cI, 60, .inl (fun j => nI (s_cp σ j)))), (a 6, .inl (cI, 200, .inl (fun j => nI (s_sp σ j)))), (a 7, .inl (cI, 200, .inl (fun j => nI (s_sa σ j)))), (a 8, .inl (cI, 200, .inl (fun j => eN (s_sv σ j))))] := hD
  refine lv_aload_n hx hb dX3_lag_5 rfl (lv_at hl 0 rfl) ?_
  refine va_get (D := dD) (ci := 3) (v := .int (nI (s_n σ))) (C := RX3) (T := TX3) (N := 14) hx hb hts hinX3 hown hK hP 0 rfl rfl 3 (by decide) (hts (.fieldLink RX3 53 "FeatureStoreModel" "rows" "I") (by decide +kernel)) (fun _ h9 => h9) rfl dX3_lag_6 ?_
  refine lv_aload_n hx hb dX3_lag_9 rfl (lv_at hl 0 rfl) ?_
  refine va_get (D := dD) (ci := 3) (v := .int (nI (s_tk σ))) (C := RX3) (T := TX3) (N := 14) hx hb hts hinX3 hown hK hP 0 rfl rfl 8 (by decide) (hts (.fieldLink RX3 80 "FeatureStoreModel" "taken" "I") (by decide +kernel)) (fun _ h9 => h9) rfl dX3_lag_10 ?_
  refine nv_isub hx hb dX3_lag_13 (by omega) ?_
  exact W.iret (v := nI ((s_n σ) - (s_tk σ))) hx hb hr (fun u9 hu9 hW => ⟨⟨nI ((s_n σ) - (s_tk σ)), (0, σ), rfl, ⟨rfl, rfl⟩, by have h9 := hP; rw [← hu9] at h9; exact h9⟩, hS.F hu9⟩) hS.2.2 dX3_lag_14

set_option maxHeartbeats 4000000 in
set_option maxRecDepth 100000 in
theorem c_X3_pass (l : Launch) (dD : va_G) (cI cR cS : ClassId) (lo : Nat) (sz : Nat) (hlo : lo ≤ sz) (m0 : Nat) (a : Nat → Nat) (th : Nat) (σ : St) (hI : sI σ) (t : Int32) : Met l yX3_pass wsX3_pass ({ frames := 1, cells := 0, slots := 0, locals := 22 }) (ePc dD cI cR cS lo [.ref m0, .int t] (fun H => H.size = sz ∧ va_P dD vwCl (mW cI m0 a th σ) H ∧ va_D (fun q => lo ≤ q) (mW cI m0 a th σ))) (va_Qi (fun (r : Int32) (u : Nat × St) => R3 (rg t 1 10000) (s_now σ + cl t ≤ 10000) σ (g_pass σ (cl t)) (nI (s_now σ + cl t)) r u) (fun u t => va_P dD vwCl (mW cI m0 a u.1 u.2) t.heap) (va_A (mW cI m0 a th σ) sz)) 0 0 (va_A (mW cI m0 a th σ) sz) := by
  refine Met.ofW (cc := cX3_pass) (maxL := 2) (ret := (some .int)) (by decide) rfl ?_
  intro p e_ s m args below meth c s₁ B hml hv
  obtain ⟨rfl, hE, hsz, hP, hD0⟩ := hv
  have hx := B.exec
  have hb := B.bytes
  have hr := B.returns
  have hts := atoms_spec (ws := wsX3_pass) B.pre
  have hown : s.vm.findClass RX3 = some m.cls := findClass_of_methodNamed B.named
  have hlocks := B.notSynchronized
  have hK := hE.1.1
  have hinX3 : ∀ w ∈ u_ws RX3 TX3 14, w ∈ wsX3_pass := by decide +kernel
  subst hsz
  have hD := hD0.self (sz := s.heap.size)
  have hAlo : ∀ q, va_A (mW cI m0 a th σ) s.heap.size q → lo ≤ q := eA_lo hD0 hlo
  generalize hAe : va_A (mW cI m0 a th σ) s.heap.size = A at hD hAlo ⊢
  have hA : ∀ q : Nat, s.heap.size ≤ q → A q := fun q h => by rw [← hAe]; exact Or.inr h
  have hS : va_S A s.heap s.heap [] := va_S.rf
  have hP : va_P dD vwCl (mW cI m0 a th σ) s.heap := hP
  obtain ⟨i_now, i_n, i_tk, i_k, i_lt, i_row, i_cp, i_srv⟩ := id hI
  have hl := lv_entry ([.ref m0, .int t]) (n := 2) (Nat.le_of_ble_eq_true rfl)
  rw [lg_entry_eq]
  generalize (lg_sl ([.ref m0, .int t]) ++ List.replicate (2 - (lg_sl ([.ref m0, .int t])).length) Slot.unset).toArray = ls at hl ⊢
  have hl : lv_has ls 2 [(0, .ref m0), (1, .int t)] := hl
  refine lv_aload_n hx hb dX3_pass_0 rfl (lv_at hl 0 rfl) ?_
  refine lv_iload_n hx hb dX3_pass_1 rfl (lv_at hl 1 rfl) ?_
  refine lv_iconst (v := nI 1) hx hb dX3_pass_2 (by decide +kernel) ?_
  refine lv_sipush (v := nI 10000) hx hb dX3_pass_3 (by decide +kernel) ?_
  refine vp_callSi (va_Run.run (va_runS (As := [.int t, .int (nI 1), .int (nI 10000)]) (rest := [.ref m0]) ⟨hx, hb, hml, hown, hts⟩ (c_X3_in l dD cI cR cS lo t (nI 1) (nI 10000)) (va_cwS 3 hts gX3_pass_X3_in rfl rfl rfl (by decide +kernel) ⟨Nat.le_of_ble_eq_true rfl, Nat.le_of_ble_eq_true rfl⟩) (ePreS hE (hS.mono hAlo) trivial) rfl rfl hl.1 rfl (lv_room (Nat.le_of_ble_eq_true rfl)) dX3_pass_6 ⟨Nat.le_of_ble_eq_true rfl, Nat.le_of_ble_eq_true rfl⟩)) (fun r_6 hr_6 => ?_)
  rcases hr_6 with ⟨rfl, hr_6⟩ | ⟨rfl, hr_6⟩
  · obtain ⟨tn, htn1, htn2, rfl⟩ := rg_of (by decide) (by decide) (hr_6)
    refine nv_if_ne (tgt := 16) hx hb dX3_pass_9 (by decide) (by decide) (fun c_9 => ?_) (fun c_9 => absurd c_9 (by decide))
    refine lv_aload_n hx hb dX3_pass_16 rfl (lv_at hl 0 rfl) ?_
    refine va_get (D := dD) (ci := 3) (v := .int (nI (s_now σ))) (C := RX3) (T := TX3) (N := 14) hx hb hts hinX3 hown hK hP 0 rfl rfl 1 (by decide) (hts (.fieldLink RX3 49 "FeatureStoreModel" "now" "I") (by decide +kernel)) (fun _ h9 => h9) rfl dX3_pass_17 ?_
    refine lv_iload_n hx hb dX3_pass_20 rfl (lv_at hl 1 rfl) ?_
    refine nv_iadd hx hb dX3_pass_21 ?_
    refine lv_sipush (v := nI 10000) hx hb dX3_pass_22 (by decide +kernel) ?_
    refine nv_le (tgt := 32) hx hb dX3_pass_25 (by decide) (by omega) (by omega) (fun c_25 => ?_) (fun c_25 => ?_)
    · refine lv_iconst (v := nI 0) hx hb dX3_pass_32 (by decide +kernel) ?_
      refine va_put (D := dD) (ci := 3) (v := .int (nI 0)) (ty := .int) (C := RX3) (T := TX3) (N := 14) hx hb hts hinX3 tyX3 tyX3_ok nmX3 hown hK hP hD hS 0 rfl rfl 0 (by decide) (hts (.fieldLink RX3 37 "FeatureStoreModel" "thrown" "I") (by decide +kernel)) (fun _ h9 => h9) rfl (by decide +kernel) rfl rfl (Nat.le_of_ble_eq_true rfl) dX3_pass_33 (fun H locs hP hD hS => ?_)
      have hP : va_P dD vwCl [(m0, .inr (3, [.int (nI 0), .int (nI (s_now σ)), .ref (a 0), .int (nI (s_n σ)), .ref (a 1), .ref (a 2), .ref (a 3), .ref (a 4), .int (nI (s_tk σ)), .ref (a 5), .int (nI (s_k σ)), .ref (a 6), .ref (a 7), .ref (a 8)])), (a 0, .inl (cI, 6, .inl (fun j => nI (s_lt σ j)))), (a 1, .inl (cI, 200, .inl (fun j => nI (s_pr σ j)))), (a 2, .inl (cI, 200, .inl (fun j => nI (s_ev σ j)))), (a 3, .inl (cI, 200, .inl (fun j => nI (s_ar σ j)))), (a 4, .inl (cI, 200, .inl (fun j => nI (s_vl σ j)))), (a 5, .inl (cI, 60, .inl (fun j => nI (s_cp σ j)))), (a 6, .inl (cI, 200, .inl (fun j => nI (s_sp σ j)))), (a 7, .inl (cI, 200, .inl (fun j => nI (s_sa σ j)))), (a 8, .inl (cI, 200, .inl (fun j => eN (s_sv σ j))))] H := hP
      have hD : va_D A [(m0, .inr (3, [.int (nI 0), .int (nI (s_now σ)), .ref (a 0), .int (nI (s_n σ)), .ref (a 1), .ref (a 2), .ref (a 3), .ref (a 4), .int (nI (s_tk σ)), .ref (a 5), .int (nI (s_k σ)), .ref (a 6), .ref (a 7), .ref (a 8)])), (a 0, .inl (cI, 6, .inl (fun j => nI (s_lt σ j)))), (a 1, .inl (cI, 200, .inl (fun j => nI (s_pr σ j)))), (a 2, .inl (cI, 200, .inl (fun j => nI (s_ev σ j)))), (a 3, .inl (cI, 200, .inl (fun j => nI (s_ar σ j)))), (a 4, .inl (cI, 200, .inl (fun j => nI (s_vl σ j)))), (a 5, .inl (cI, 60, .inl (fun j => nI (s_cp σ j)))), (a 6, .inl (cI, 200, .inl (fun j => nI (s_sp σ j)))), (a 7, .inl (cI, 200, .inl (fun j => nI (s_sa σ j)))), (a 8, .inl (cI, 200, .inl (fun j => eN (s_sv σ j))))] := hD
      refine lv_aload_n hx hb dX3_pass_36 rfl (lv_at hl 0 rfl) ?_
      refine va_get (D := dD) (ci := 3) (v := .int (nI 0)) (C := RX3) (T := TX3) (N := 14) hx hb hts hinX3 hown hK hP 0 rfl rfl 0 (by decide) (hts (.fieldLink RX3 37 "FeatureStoreModel" "thrown" "I") (by decide +kernel)) (fun _ h9 => h9) rfl dX3_pass_37 ?_
      refine nv_if_le (tgt := 45) hx hb dX3_pass_40 (by decide) (by decide) (fun c_40 => ?_) (fun c_40 => absurd c_40 (by decide))
      refine lv_aload_n hx hb dX3_pass_45 rfl (lv_at hl 0 rfl) ?_
      refine lv_dup hx hb dX3_pass_46 rfl ?_
      refine va_get (D := dD) (ci := 3) (v := .int (nI (s_now σ))) (C := RX3) (T := TX3) (N := 14) hx hb hts hinX3 hown hK hP 0 rfl rfl 1 (by decide) (hts (.fieldLink RX3 49 "FeatureStoreModel" "now" "I") (by decide +kernel)) (fun _ h9 => h9) rfl dX3_pass_47 ?_
      refine lv_iload_n hx hb dX3_pass_50 rfl (lv_at hl 1 rfl) ?_
      refine nv_iadd hx hb dX3_pass_51 ?_
      refine va_put (D := dD) (ci := 3) (v := .int (nI ((s_now σ) + tn))) (ty := .int) (C := RX3) (T := TX3) (N := 14) hx hb hts hinX3 tyX3 tyX3_ok nmX3 hown hK hP hD hS 0 rfl rfl 1 (by decide) (hts (.fieldLink RX3 49 "FeatureStoreModel" "now" "I") (by decide +kernel)) (fun _ h9 => h9) rfl (by decide +kernel) rfl rfl (Nat.le_of_ble_eq_true rfl) dX3_pass_52 (fun H locs hP hD hS => ?_)
      have hP : va_P dD vwCl [(m0, .inr (3, [.int (nI 0), .int (nI ((s_now σ) + tn)), .ref (a 0), .int (nI (s_n σ)), .ref (a 1), .ref (a 2), .ref (a 3), .ref (a 4), .int (nI (s_tk σ)), .ref (a 5), .int (nI (s_k σ)), .ref (a 6), .ref (a 7), .ref (a 8)])), (a 0, .inl (cI, 6, .inl (fun j => nI (s_lt σ j)))), (a 1, .inl (cI, 200, .inl (fun j => nI (s_pr σ j)))), (a 2, .inl (cI, 200, .inl (fun j => nI (s_ev σ j)))), (a 3, .inl (cI, 200, .inl (fun j => nI (s_ar σ j)))), (a 4, .inl (cI, 200, .inl (fun j => nI (s_vl σ j)))), (a 5, .inl (cI, 60, .inl (fun j => nI (s_cp σ j)))), (a 6, .inl (cI, 200, .inl (fun j => nI (s_sp σ j)))), (a 7, .inl (cI, 200, .inl (fun j => nI (s_sa σ j)))), (a 8, .inl (cI, 200, .inl (fun j => eN (s_sv σ j))))] H := hP
      have hD : va_D A [(m0, .inr (3, [.int (nI 0), .int (nI ((s_now σ) + tn)), .ref (a 0), .int (nI (s_n σ)), .ref (a 1), .ref (a 2), .ref (a 3), .ref (a 4), .int (nI (s_tk σ)), .ref (a 5), .int (nI (s_k σ)), .ref (a 6), .ref (a 7), .ref (a 8)])), (a 0, .inl (cI, 6, .inl (fun j => nI (s_lt σ j)))), (a 1, .inl (cI, 200, .inl (fun j => nI (s_pr σ j)))), (a 2, .inl (cI, 200, .inl (fun j => nI (s_ev σ j)))), (a 3, .inl (cI, 200, .inl (fun j => nI (s_ar σ j)))), (a 4, .inl (cI, 200, .inl (fun j => nI (s_vl σ j)))), (a 5, .inl (cI, 60, .inl (fun j => nI (s_cp σ j)))), (a 6, .inl (cI, 200, .inl (fun j => nI (s_sp σ j)))), (a 7, .inl (cI, 200, .inl (fun j => nI (s_sa σ j)))), (a 8, .inl (cI, 200, .inl (fun j => eN (s_sv σ j))))] := hD
      refine lv_aload_n hx hb dX3_pass_55 rfl (lv_at hl 0 rfl) ?_
      refine va_get (D := dD) (ci := 3) (v := .int (nI ((s_now σ) + tn))) (C := RX3) (T := TX3) (N := 14) hx hb hts hinX3 hown hK hP 0 rfl rfl 1 (by decide) (hts (.fieldLink RX3 49 "FeatureStoreModel" "now" "I") (by decide +kernel)) (fun _ h9 => h9) rfl dX3_pass_56 ?_
      exact W.iret (v := nI ((s_now σ) + tn)) hx hb hr (fun u9 hu9 hW => ⟨⟨nI ((s_now σ) + tn), (0, g_pass σ tn), rfl, Or.inl ⟨hr_6, by rw [cl_nI (by omega)]; omega, by rw [cl_nI (by omega)], by rw [cl_nI (by omega)]⟩, by have h9 := hP; rw [← hu9] at h9; exact h9⟩, hS.F hu9⟩) hS.2.2 dX3_pass_59
    · refine lv_iconst (v := nI 2) hx hb dX3_pass_28 (by decide +kernel) ?_
      refine lv_goto (tgt := 33) hx hb dX3_pass_29 (by decide) ?_
      refine va_put (D := dD) (ci := 3) (v := .int (nI 2)) (ty := .int) (C := RX3) (T := TX3) (N := 14) hx hb hts hinX3 tyX3 tyX3_ok nmX3 hown hK hP hD hS 0 rfl rfl 0 (by decide) (hts (.fieldLink RX3 37 "FeatureStoreModel" "thrown" "I") (by decide +kernel)) (fun _ h9 => h9) rfl (by decide +kernel) rfl rfl (Nat.le_of_ble_eq_true rfl) dX3_pass_33 (fun H locs hP hD hS => ?_)
      have hP : va_P dD vwCl [(m0, .inr (3, [.int (nI 2), .int (nI (s_now σ)), .ref (a 0), .int (nI (s_n σ)), .ref (a 1), .ref (a 2), .ref (a 3), .ref (a 4), .int (nI (s_tk σ)), .ref (a 5), .int (nI (s_k σ)), .ref (a 6), .ref (a 7), .ref (a 8)])), (a 0, .inl (cI, 6, .inl (fun j => nI (s_lt σ j)))), (a 1, .inl (cI, 200, .inl (fun j => nI (s_pr σ j)))), (a 2, .inl (cI, 200, .inl (fun j => nI (s_ev σ j)))), (a 3, .inl (cI, 200, .inl (fun j => nI (s_ar σ j)))), (a 4, .inl (cI, 200, .inl (fun j => nI (s_vl σ j)))), (a 5, .inl (cI, 60, .inl (fun j => nI (s_cp σ j)))), (a 6, .inl (cI, 200, .inl (fun j => nI (s_sp σ j)))), (a 7, .inl (cI, 200, .inl (fun j => nI (s_sa σ j)))), (a 8, .inl (cI, 200, .inl (fun j => eN (s_sv σ j))))] H := hP
      have hD : va_D A [(m0, .inr (3, [.int (nI 2), .int (nI (s_now σ)), .ref (a 0), .int (nI (s_n σ)), .ref (a 1), .ref (a 2), .ref (a 3), .ref (a 4), .int (nI (s_tk σ)), .ref (a 5), .int (nI (s_k σ)), .ref (a 6), .ref (a 7), .ref (a 8)])), (a 0, .inl (cI, 6, .inl (fun j => nI (s_lt σ j)))), (a 1, .inl (cI, 200, .inl (fun j => nI (s_pr σ j)))), (a 2, .inl (cI, 200, .inl (fun j => nI (s_ev σ j)))), (a 3, .inl (cI, 200, .inl (fun j => nI (s_ar σ j)))), (a 4, .inl (cI, 200, .inl (fun j => nI (s_vl σ j)))), (a 5, .inl (cI, 60, .inl (fun j => nI (s_cp σ j)))), (a 6, .inl (cI, 200, .inl (fun j => nI (s_sp σ j)))), (a 7, .inl (cI, 200, .inl (fun j => nI (s_sa σ j)))), (a 8, .inl (cI, 200, .inl (fun j => eN (s_sv σ j))))] := hD
      refine lv_aload_n hx hb dX3_pass_36 rfl (lv_at hl 0 rfl) ?_
      refine va_get (D := dD) (ci := 3) (v := .int (nI 2)) (C := RX3) (T := TX3) (N := 14) hx hb hts hinX3 hown hK hP 0 rfl rfl 0 (by decide) (hts (.fieldLink RX3 37 "FeatureStoreModel" "thrown" "I") (by decide +kernel)) (fun _ h9 => h9) rfl dX3_pass_37 ?_
      refine nv_if_le (tgt := 45) hx hb dX3_pass_40 (by decide) (by decide) (fun c_40 => absurd c_40 (by decide)) (fun c_40 => ?_)
      refine lv_iconst (v := nI 0) hx hb dX3_pass_43 (by decide +kernel) ?_
      exact W.iret (v := nI 0) hx hb hr (fun u9 hu9 hW => ⟨⟨nI 0, (2, σ), rfl, Or.inr (Or.inr ⟨hr_6, by rw [cl_nI (by omega)]; omega, rfl⟩), by have h9 := hP; rw [← hu9] at h9; exact h9⟩, hS.F hu9⟩) hS.2.2 dX3_pass_44
  · refine nv_if_ne (tgt := 16) hx hb dX3_pass_9 (by decide) (by decide) (fun c_9 => absurd c_9 (by decide)) (fun c_9 => ?_)
    refine lv_iconst (v := nI 1) hx hb dX3_pass_12 (by decide +kernel) ?_
    refine lv_goto (tgt := 33) hx hb dX3_pass_13 (by decide) ?_
    refine va_put (D := dD) (ci := 3) (v := .int (nI 1)) (ty := .int) (C := RX3) (T := TX3) (N := 14) hx hb hts hinX3 tyX3 tyX3_ok nmX3 hown hK hP hD hS 0 rfl rfl 0 (by decide) (hts (.fieldLink RX3 37 "FeatureStoreModel" "thrown" "I") (by decide +kernel)) (fun _ h9 => h9) rfl (by decide +kernel) rfl rfl (Nat.le_of_ble_eq_true rfl) dX3_pass_33 (fun H locs hP hD hS => ?_)
    have hP : va_P dD vwCl [(m0, .inr (3, [.int (nI 1), .int (nI (s_now σ)), .ref (a 0), .int (nI (s_n σ)), .ref (a 1), .ref (a 2), .ref (a 3), .ref (a 4), .int (nI (s_tk σ)), .ref (a 5), .int (nI (s_k σ)), .ref (a 6), .ref (a 7), .ref (a 8)])), (a 0, .inl (cI, 6, .inl (fun j => nI (s_lt σ j)))), (a 1, .inl (cI, 200, .inl (fun j => nI (s_pr σ j)))), (a 2, .inl (cI, 200, .inl (fun j => nI (s_ev σ j)))), (a 3, .inl (cI, 200, .inl (fun j => nI (s_ar σ j)))), (a 4, .inl (cI, 200, .inl (fun j => nI (s_vl σ j)))), (a 5, .inl (cI, 60, .inl (fun j => nI (s_cp σ j)))), (a 6, .inl (cI, 200, .inl (fun j => nI (s_sp σ j)))), (a 7, .inl (cI, 200, .inl (fun j => nI (s_sa σ j)))), (a 8, .inl (cI, 200, .inl (fun j => eN (s_sv σ j))))] H := hP
    have hD : va_D A [(m0, .inr (3, [.int (nI 1), .int (nI (s_now σ)), .ref (a 0), .int (nI (s_n σ)), .ref (a 1), .ref (a 2), .ref (a 3), .ref (a 4), .int (nI (s_tk σ)), .ref (a 5), .int (nI (s_k σ)), .ref (a 6), .ref (a 7), .ref (a 8)])), (a 0, .inl (cI, 6, .inl (fun j => nI (s_lt σ j)))), (a 1, .inl (cI, 200, .inl (fun j => nI (s_pr σ j)))), (a 2, .inl (cI, 200, .inl (fun j => nI (s_ev σ j)))), (a 3, .inl (cI, 200, .inl (fun j => nI (s_ar σ j)))), (a 4, .inl (cI, 200, .inl (fun j => nI (s_vl σ j)))), (a 5, .inl (cI, 60, .inl (fun j => nI (s_cp σ j)))), (a 6, .inl (cI, 200, .inl (fun j => nI (s_sp σ j)))), (a 7, .inl (cI, 200, .inl (fun j => nI (s_sa σ j)))), (a 8, .inl (cI, 200, .inl (fun j => eN (s_sv σ j))))] := hD
    refine lv_aload_n hx hb dX3_pass_36 rfl (lv_at hl 0 rfl) ?_
    refine va_get (D := dD) (ci := 3) (v := .int (nI 1)) (C := RX3) (T := TX3) (N := 14) hx hb hts hinX3 hown hK hP 0 rfl rfl 0 (by decide) (hts (.fieldLink RX3 37 "FeatureStoreModel" "thrown" "I") (by decide +kernel)) (fun _ h9 => h9) rfl dX3_pass_37 ?_
    refine nv_if_le (tgt := 45) hx hb dX3_pass_40 (by decide) (by decide) (fun c_40 => absurd c_40 (by decide)) (fun c_40 => ?_)
    refine lv_iconst (v := nI 0) hx hb dX3_pass_43 (by decide +kernel) ?_
    exact W.iret (v := nI 0) hx hb hr (fun u9 hu9 hW => ⟨⟨nI 0, (1, σ), rfl, Or.inr (Or.inl ⟨hr_6, rfl⟩), by have h9 := hP; rw [← hu9] at h9; exact h9⟩, hS.F hu9⟩) hS.2.2 dX3_pass_44

set_option maxHeartbeats 4000000 in
set_option maxRecDepth 100000 in
theorem c_X3_setLifetime (l : Launch) (dD : va_G) (cI cR cS : ClassId) (lo : Nat) (sz : Nat) (hlo : lo ≤ sz) (m0 : Nat) (a : Nat → Nat) (th : Nat) (σ : St) (hI : sI σ) (f t : Int32) : Met l yX3_setLifetime wsX3_setLifetime ({ frames := 1, cells := 0, slots := 0, locals := 22 }) (ePc dD cI cR cS lo [.ref m0, .int f, .int t] (fun H => H.size = sz ∧ va_P dD vwCl (mW cI m0 a th σ) H ∧ va_D (fun q => lo ≤ q) (mW cI m0 a th σ))) (va_Qi (fun (r : Int32) (u : Nat × St) => R3 (rg f 0 5 ∧ rg t 0 10000) True σ (g_setL σ (cl f) (cl t)) (nI (s_lt σ (cl f))) r u) (fun u t => va_P dD vwCl (mW cI m0 a u.1 u.2) t.heap) (va_A (mW cI m0 a th σ) sz)) 0 0 (va_A (mW cI m0 a th σ) sz) := by
  refine Met.ofW (cc := cX3_setLifetime) (maxL := 4) (ret := (some .int)) (by decide) rfl ?_
  intro p e_ s m args below meth c s₁ B hml hv
  obtain ⟨rfl, hE, hsz, hP, hD0⟩ := hv
  have hx := B.exec
  have hb := B.bytes
  have hr := B.returns
  have hts := atoms_spec (ws := wsX3_setLifetime) B.pre
  have hown : s.vm.findClass RX3 = some m.cls := findClass_of_methodNamed B.named
  have hlocks := B.notSynchronized
  have hK := hE.1.1
  have hinX3 : ∀ w ∈ u_ws RX3 TX3 14, w ∈ wsX3_setLifetime := by decide +kernel
  subst hsz
  have hD := hD0.self (sz := s.heap.size)
  have hAlo : ∀ q, va_A (mW cI m0 a th σ) s.heap.size q → lo ≤ q := eA_lo hD0 hlo
  generalize hAe : va_A (mW cI m0 a th σ) s.heap.size = A at hD hAlo ⊢
  have hA : ∀ q : Nat, s.heap.size ≤ q → A q := fun q h => by rw [← hAe]; exact Or.inr h
  have hS : va_S A s.heap s.heap [] := va_S.rf
  have hP : va_P dD vwCl (mW cI m0 a th σ) s.heap := hP
  obtain ⟨i_now, i_n, i_tk, i_k, i_lt, i_row, i_cp, i_srv⟩ := id hI
  have hl := lv_entry ([.ref m0, .int f, .int t]) (n := 4) (Nat.le_of_ble_eq_true rfl)
  rw [lg_entry_eq]
  generalize (lg_sl ([.ref m0, .int f, .int t]) ++ List.replicate (4 - (lg_sl ([.ref m0, .int f, .int t])).length) Slot.unset).toArray = ls at hl ⊢
  have hl : lv_has ls 4 [(0, .ref m0), (1, .int f), (2, .int t)] := hl
  refine lv_aload_n hx hb dX3_setLifetime_0 rfl (lv_at hl 0 rfl) ?_
  refine lv_iload_n hx hb dX3_setLifetime_1 rfl (lv_at hl 1 rfl) ?_
  refine lv_iconst (v := nI 0) hx hb dX3_setLifetime_2 (by decide +kernel) ?_
  refine lv_iconst (v := nI 5) hx hb dX3_setLifetime_3 (by decide +kernel) ?_
  refine vp_callSi (va_Run.run (va_runS (As := [.int f, .int (nI 0), .int (nI 5)]) (rest := [.ref m0]) ⟨hx, hb, hml, hown, hts⟩ (c_X3_in l dD cI cR cS lo f (nI 0) (nI 5)) (va_cwS 3 hts gX3_setLifetime_X3_in rfl rfl rfl (by decide +kernel) ⟨Nat.le_of_ble_eq_true rfl, Nat.le_of_ble_eq_true rfl⟩) (ePreS hE (hS.mono hAlo) trivial) rfl rfl hl.1 rfl (lv_room (Nat.le_of_ble_eq_true rfl)) dX3_setLifetime_4 ⟨Nat.le_of_ble_eq_true rfl, Nat.le_of_ble_eq_true rfl⟩)) (fun r_4 hr_4 => ?_)
  rcases hr_4 with ⟨rfl, hr_4⟩ | ⟨rfl, hr_4⟩
  · refine nv_if_eq (tgt := 25) hx hb dX3_setLifetime_7 (by decide) (by decide) (fun c_7 => absurd c_7 (by decide)) (fun c_7 => ?_)
    refine lv_iload_n hx hb dX3_setLifetime_10 rfl (lv_at hl 2 rfl) ?_
    refine lv_iconst (v := nI 0) hx hb dX3_setLifetime_11 (by decide +kernel) ?_
    refine lv_sipush (v := nI 10000) hx hb dX3_setLifetime_12 (by decide +kernel) ?_
    refine vp_callSi (va_Run.run (va_runS (As := [.int t, .int (nI 0), .int (nI 10000)]) (rest := [.ref m0]) ⟨hx, hb, hml, hown, hts⟩ (c_X3_in l dD cI cR cS lo t (nI 0) (nI 10000)) (va_cwS 3 hts gX3_setLifetime_X3_in rfl rfl rfl (by decide +kernel) ⟨Nat.le_of_ble_eq_true rfl, Nat.le_of_ble_eq_true rfl⟩) (ePreS hE (hS.mono hAlo) trivial) rfl rfl hl.1 rfl (lv_room (Nat.le_of_ble_eq_true rfl)) dX3_setLifetime_15 ⟨Nat.le_of_ble_eq_true rfl, Nat.le_of_ble_eq_true rfl⟩)) (fun r_15 hr_15 => ?_)
    rcases hr_15 with ⟨rfl, hr_15⟩ | ⟨rfl, hr_15⟩
    · obtain ⟨fn, hfn1, hfn2, rfl⟩ := rg_of (by decide) (by decide) (hr_4)
      obtain ⟨tn, htn1, htn2, rfl⟩ := rg_of (by decide) (by decide) (hr_15)
      refine nv_if_eq (tgt := 25) hx hb dX3_setLifetime_18 (by decide) (by decide) (fun c_18 => absurd c_18 (by decide)) (fun c_18 => ?_)
      refine lv_iconst (v := nI 0) hx hb dX3_setLifetime_21 (by decide +kernel) ?_
      refine lv_goto (tgt := 26) hx hb dX3_setLifetime_22 (by decide) ?_
      refine va_put (D := dD) (ci := 3) (v := .int (nI 0)) (ty := .int) (C := RX3) (T := TX3) (N := 14) hx hb hts hinX3 tyX3 tyX3_ok nmX3 hown hK hP hD hS 0 rfl rfl 0 (by decide) (hts (.fieldLink RX3 37 "FeatureStoreModel" "thrown" "I") (by decide +kernel)) (fun _ h9 => h9) rfl (by decide +kernel) rfl rfl (Nat.le_of_ble_eq_true rfl) dX3_setLifetime_26 (fun H locs hP hD hS => ?_)
      have hP : va_P dD vwCl [(m0, .inr (3, [.int (nI 0), .int (nI (s_now σ)), .ref (a 0), .int (nI (s_n σ)), .ref (a 1), .ref (a 2), .ref (a 3), .ref (a 4), .int (nI (s_tk σ)), .ref (a 5), .int (nI (s_k σ)), .ref (a 6), .ref (a 7), .ref (a 8)])), (a 0, .inl (cI, 6, .inl (fun j => nI (s_lt σ j)))), (a 1, .inl (cI, 200, .inl (fun j => nI (s_pr σ j)))), (a 2, .inl (cI, 200, .inl (fun j => nI (s_ev σ j)))), (a 3, .inl (cI, 200, .inl (fun j => nI (s_ar σ j)))), (a 4, .inl (cI, 200, .inl (fun j => nI (s_vl σ j)))), (a 5, .inl (cI, 60, .inl (fun j => nI (s_cp σ j)))), (a 6, .inl (cI, 200, .inl (fun j => nI (s_sp σ j)))), (a 7, .inl (cI, 200, .inl (fun j => nI (s_sa σ j)))), (a 8, .inl (cI, 200, .inl (fun j => eN (s_sv σ j))))] H := hP
      have hD : va_D A [(m0, .inr (3, [.int (nI 0), .int (nI (s_now σ)), .ref (a 0), .int (nI (s_n σ)), .ref (a 1), .ref (a 2), .ref (a 3), .ref (a 4), .int (nI (s_tk σ)), .ref (a 5), .int (nI (s_k σ)), .ref (a 6), .ref (a 7), .ref (a 8)])), (a 0, .inl (cI, 6, .inl (fun j => nI (s_lt σ j)))), (a 1, .inl (cI, 200, .inl (fun j => nI (s_pr σ j)))), (a 2, .inl (cI, 200, .inl (fun j => nI (s_ev σ j)))), (a 3, .inl (cI, 200, .inl (fun j => nI (s_ar σ j)))), (a 4, .inl (cI, 200, .inl (fun j => nI (s_vl σ j)))), (a 5, .inl (cI, 60, .inl (fun j => nI (s_cp σ j)))), (a 6, .inl (cI, 200, .inl (fun j => nI (s_sp σ j)))), (a 7, .inl (cI, 200, .inl (fun j => nI (s_sa σ j)))), (a 8, .inl (cI, 200, .inl (fun j => eN (s_sv σ j))))] := hD
      refine lv_aload_n hx hb dX3_setLifetime_29 rfl (lv_at hl 0 rfl) ?_
      refine va_get (D := dD) (ci := 3) (v := .int (nI 0)) (C := RX3) (T := TX3) (N := 14) hx hb hts hinX3 hown hK hP 0 rfl rfl 0 (by decide) (hts (.fieldLink RX3 37 "FeatureStoreModel" "thrown" "I") (by decide +kernel)) (fun _ h9 => h9) rfl dX3_setLifetime_30 ?_
      refine nv_if_le (tgt := 38) hx hb dX3_setLifetime_33 (by decide) (by decide) (fun c_33 => ?_) (fun c_33 => absurd c_33 (by decide))
      refine lv_aload_n hx hb dX3_setLifetime_38 rfl (lv_at hl 0 rfl) ?_
      refine va_get (D := dD) (ci := 3) (v := .ref (a 0)) (C := RX3) (T := TX3) (N := 14) hx hb hts hinX3 hown hK hP 0 rfl rfl 2 (by decide) (hts (.fieldLink RX3 7 "FeatureStoreModel" "lifetime" "[I") (by decide +kernel)) (fun _ h9 => h9) rfl dX3_setLifetime_39 ?_
      refine lv_iload_n hx hb dX3_setLifetime_42 rfl (lv_at hl 1 rfl) ?_
      refine nv_iald (q0 := 1) (t0 := 0) (s_lt σ) hx hb hK hP rfl rfl (by omega) (by decide) dX3_setLifetime_43 ?_
      refine lv_istore_n (lv' := [(3, .int (nI (s_lt σ fn))), (0, .ref m0), (1, .int (nI fn)), (2, .int (nI tn))]) hx hb dX3_setLifetime_44 rfl hl (by decide) rfl (fun ls hl => ?_)
      refine lv_aload_n hx hb dX3_setLifetime_45 rfl (lv_at hl 1 rfl) ?_
      refine va_get (D := dD) (ci := 3) (v := .ref (a 0)) (C := RX3) (T := TX3) (N := 14) hx hb hts hinX3 hown hK hP 0 rfl rfl 2 (by decide) (hts (.fieldLink RX3 7 "FeatureStoreModel" "lifetime" "[I") (by decide +kernel)) (fun _ h9 => h9) rfl dX3_setLifetime_46 ?_
      refine lv_iload_n hx hb dX3_setLifetime_49 rfl (lv_at hl 2 rfl) ?_
      refine lv_iload_n hx hb dX3_setLifetime_50 rfl (lv_at hl 3 rfl) ?_
      refine nv_iast (q0 := 1) (t0 := 0) (s_lt σ) hx hb hK hP hD hS rfl rfl (by omega) (by decide) dX3_setLifetime_51 (fun H locs hP hD hS => ?_)
      have hP : va_P dD vwCl [(m0, .inr (3, [.int (nI 0), .int (nI (s_now σ)), .ref (a 0), .int (nI (s_n σ)), .ref (a 1), .ref (a 2), .ref (a 3), .ref (a 4), .int (nI (s_tk σ)), .ref (a 5), .int (nI (s_k σ)), .ref (a 6), .ref (a 7), .ref (a 8)])), (a 0, .inl (cI, 6, .inl (fun j => nI ((uN (s_lt σ) fn tn) j)))), (a 1, .inl (cI, 200, .inl (fun j => nI (s_pr σ j)))), (a 2, .inl (cI, 200, .inl (fun j => nI (s_ev σ j)))), (a 3, .inl (cI, 200, .inl (fun j => nI (s_ar σ j)))), (a 4, .inl (cI, 200, .inl (fun j => nI (s_vl σ j)))), (a 5, .inl (cI, 60, .inl (fun j => nI (s_cp σ j)))), (a 6, .inl (cI, 200, .inl (fun j => nI (s_sp σ j)))), (a 7, .inl (cI, 200, .inl (fun j => nI (s_sa σ j)))), (a 8, .inl (cI, 200, .inl (fun j => eN (s_sv σ j))))] H := hP
      have hD : va_D A [(m0, .inr (3, [.int (nI 0), .int (nI (s_now σ)), .ref (a 0), .int (nI (s_n σ)), .ref (a 1), .ref (a 2), .ref (a 3), .ref (a 4), .int (nI (s_tk σ)), .ref (a 5), .int (nI (s_k σ)), .ref (a 6), .ref (a 7), .ref (a 8)])), (a 0, .inl (cI, 6, .inl (fun j => nI ((uN (s_lt σ) fn tn) j)))), (a 1, .inl (cI, 200, .inl (fun j => nI (s_pr σ j)))), (a 2, .inl (cI, 200, .inl (fun j => nI (s_ev σ j)))), (a 3, .inl (cI, 200, .inl (fun j => nI (s_ar σ j)))), (a 4, .inl (cI, 200, .inl (fun j => nI (s_vl σ j)))), (a 5, .inl (cI, 60, .inl (fun j => nI (s_cp σ j)))), (a 6, .inl (cI, 200, .inl (fun j => nI (s_sp σ j)))), (a 7, .inl (cI, 200, .inl (fun j => nI (s_sa σ j)))), (a 8, .inl (cI, 200, .inl (fun j => eN (s_sv σ j))))] := hD
      refine lv_iload_n hx hb dX3_setLifetime_52 rfl (lv_at hl 0 rfl) ?_
      exact W.iret (v := nI (s_lt σ fn)) hx hb hr (fun u9 hu9 hW => ⟨⟨nI (s_lt σ fn), (0, g_setL σ fn tn), rfl, Or.inl ⟨⟨hr_4, hr_15⟩, trivial, by rw [cl_nI (by omega), cl_nI (by omega)], by rw [cl_nI (by omega)]⟩, by have h9 := hP; rw [← hu9] at h9; exact h9⟩, hS.F hu9⟩) hS.2.2 dX3_setLifetime_53
    · refine nv_if_eq (tgt := 25) hx hb dX3_setLifetime_18 (by decide) (by decide) (fun c_18 => ?_) (fun c_18 => absurd c_18 (by decide))
      refine lv_iconst (v := nI 1) hx hb dX3_setLifetime_25 (by decide +kernel) ?_
      refine va_put (D := dD) (ci := 3) (v := .int (nI 1)) (ty := .int) (C := RX3) (T := TX3) (N := 14) hx hb hts hinX3 tyX3 tyX3_ok nmX3 hown hK hP hD hS 0 rfl rfl 0 (by decide) (hts (.fieldLink RX3 37 "FeatureStoreModel" "thrown" "I") (by decide +kernel)) (fun _ h9 => h9) rfl (by decide +kernel) rfl rfl (Nat.le_of_ble_eq_true rfl) dX3_setLifetime_26 (fun H locs hP hD hS => ?_)
      have hP : va_P dD vwCl [(m0, .inr (3, [.int (nI 1), .int (nI (s_now σ)), .ref (a 0), .int (nI (s_n σ)), .ref (a 1), .ref (a 2), .ref (a 3), .ref (a 4), .int (nI (s_tk σ)), .ref (a 5), .int (nI (s_k σ)), .ref (a 6), .ref (a 7), .ref (a 8)])), (a 0, .inl (cI, 6, .inl (fun j => nI (s_lt σ j)))), (a 1, .inl (cI, 200, .inl (fun j => nI (s_pr σ j)))), (a 2, .inl (cI, 200, .inl (fun j => nI (s_ev σ j)))), (a 3, .inl (cI, 200, .inl (fun j => nI (s_ar σ j)))), (a 4, .inl (cI, 200, .inl (fun j => nI (s_vl σ j)))), (a 5, .inl (cI, 60, .inl (fun j => nI (s_cp σ j)))), (a 6, .inl (cI, 200, .inl (fun j => nI (s_sp σ j)))), (a 7, .inl (cI, 200, .inl (fun j => nI (s_sa σ j)))), (a 8, .inl (cI, 200, .inl (fun j => eN (s_sv σ j))))] H := hP
      have hD : va_D A [(m0, .inr (3, [.int (nI 1), .int (nI (s_now σ)), .ref (a 0), .int (nI (s_n σ)), .ref (a 1), .ref (a 2), .ref (a 3), .ref (a 4), .int (nI (s_tk σ)), .ref (a 5), .int (nI (s_k σ)), .ref (a 6), .ref (a 7), .ref (a 8)])), (a 0, .inl (cI, 6, .inl (fun j => nI (s_lt σ j)))), (a 1, .inl (cI, 200, .inl (fun j => nI (s_pr σ j)))), (a 2, .inl (cI, 200, .inl (fun j => nI (s_ev σ j)))), (a 3, .inl (cI, 200, .inl (fun j => nI (s_ar σ j)))), (a 4, .inl (cI, 200, .inl (fun j => nI (s_vl σ j)))), (a 5, .inl (cI, 60, .inl (fun j => nI (s_cp σ j)))), (a 6, .inl (cI, 200, .inl (fun j => nI (s_sp σ j)))), (a 7, .inl (cI, 200, .inl (fun j => nI (s_sa σ j)))), (a 8, .inl (cI, 200, .inl (fun j => eN (s_sv σ j))))] := hD
      refine lv_aload_n hx hb dX3_setLifetime_29 rfl (lv_at hl 0 rfl) ?_
      refine va_get (D := dD) (ci := 3) (v := .int (nI 1)) (C := RX3) (T := TX3) (N := 14) hx hb hts hinX3 hown hK hP 0 rfl rfl 0 (by decide) (hts (.fieldLink RX3 37 "FeatureStoreModel" "thrown" "I") (by decide +kernel)) (fun _ h9 => h9) rfl dX3_setLifetime_30 ?_
      refine nv_if_le (tgt := 38) hx hb dX3_setLifetime_33 (by decide) (by decide) (fun c_33 => absurd c_33 (by decide)) (fun c_33 => ?_)
      refine lv_iconst (v := nI 0) hx hb dX3_setLifetime_36 (by decide +kernel) ?_
      exact W.iret (v := nI 0) hx hb hr (fun u9 hu9 hW => ⟨⟨nI 0, (1, σ), rfl, Or.inr (Or.inl ⟨fun h => hr_15 h.2, rfl⟩), by have h9 := hP; rw [← hu9] at h9; exact h9⟩, hS.F hu9⟩) hS.2.2 dX3_setLifetime_37
  · refine nv_if_eq (tgt := 25) hx hb dX3_setLifetime_7 (by decide) (by decide) (fun c_7 => ?_) (fun c_7 => absurd c_7 (by decide))
    refine lv_iconst (v := nI 1) hx hb dX3_setLifetime_25 (by decide +kernel) ?_
    refine va_put (D := dD) (ci := 3) (v := .int (nI 1)) (ty := .int) (C := RX3) (T := TX3) (N := 14) hx hb hts hinX3 tyX3 tyX3_ok nmX3 hown hK hP hD hS 0 rfl rfl 0 (by decide) (hts (.fieldLink RX3 37 "FeatureStoreModel" "thrown" "I") (by decide +kernel)) (fun _ h9 => h9) rfl (by decide +kernel) rfl rfl (Nat.le_of_ble_eq_true rfl) dX3_setLifetime_26 (fun H locs hP hD hS => ?_)
    have hP : va_P dD vwCl [(m0, .inr (3, [.int (nI 1), .int (nI (s_now σ)), .ref (a 0), .int (nI (s_n σ)), .ref (a 1), .ref (a 2), .ref (a 3), .ref (a 4), .int (nI (s_tk σ)), .ref (a 5), .int (nI (s_k σ)), .ref (a 6), .ref (a 7), .ref (a 8)])), (a 0, .inl (cI, 6, .inl (fun j => nI (s_lt σ j)))), (a 1, .inl (cI, 200, .inl (fun j => nI (s_pr σ j)))), (a 2, .inl (cI, 200, .inl (fun j => nI (s_ev σ j)))), (a 3, .inl (cI, 200, .inl (fun j => nI (s_ar σ j)))), (a 4, .inl (cI, 200, .inl (fun j => nI (s_vl σ j)))), (a 5, .inl (cI, 60, .inl (fun j => nI (s_cp σ j)))), (a 6, .inl (cI, 200, .inl (fun j => nI (s_sp σ j)))), (a 7, .inl (cI, 200, .inl (fun j => nI (s_sa σ j)))), (a 8, .inl (cI, 200, .inl (fun j => eN (s_sv σ j))))] H := hP
    have hD : va_D A [(m0, .inr (3, [.int (nI 1), .int (nI (s_now σ)), .ref (a 0), .int (nI (s_n σ)), .ref (a 1), .ref (a 2), .ref (a 3), .ref (a 4), .int (nI (s_tk σ)), .ref (a 5), .int (nI (s_k σ)), .ref (a 6), .ref (a 7), .ref (a 8)])), (a 0, .inl (cI, 6, .inl (fun j => nI (s_lt σ j)))), (a 1, .inl (cI, 200, .inl (fun j => nI (s_pr σ j)))), (a 2, .inl (cI, 200, .inl (fun j => nI (s_ev σ j)))), (a 3, .inl (cI, 200, .inl (fun j => nI (s_ar σ j)))), (a 4, .inl (cI, 200, .inl (fun j => nI (s_vl σ j)))), (a 5, .inl (cI, 60, .inl (fun j => nI (s_cp σ j)))), (a 6, .inl (cI, 200, .inl (fun j => nI (s_sp σ j)))), (a 7, .inl (cI, 200, .inl (fun j => nI (s_sa σ j)))), (a 8, .inl (cI, 200, .inl (fun j => eN (s_sv σ j))))] := hD
    refine lv_aload_n hx hb dX3_setLifetime_29 rfl (lv_at hl 0 rfl) ?_
    refine va_get (D := dD) (ci := 3) (v := .int (nI 1)) (C := RX3) (T := TX3) (N := 14) hx hb hts hinX3 hown hK hP 0 rfl rfl 0 (by decide) (hts (.fieldLink RX3 37 "FeatureStoreModel" "thrown" "I") (by decide +kernel)) (fun _ h9 => h9) rfl dX3_setLifetime_30 ?_
    refine nv_if_le (tgt := 38) hx hb dX3_setLifetime_33 (by decide) (by decide) (fun c_33 => absurd c_33 (by decide)) (fun c_33 => ?_)
    refine lv_iconst (v := nI 0) hx hb dX3_setLifetime_36 (by decide +kernel) ?_
    exact W.iret (v := nI 0) hx hb hr (fun u9 hu9 hW => ⟨⟨nI 0, (1, σ), rfl, Or.inr (Or.inl ⟨fun h => hr_4 h.1, rfl⟩), by have h9 := hP; rw [← hu9] at h9; exact h9⟩, hS.F hu9⟩) hS.2.2 dX3_setLifetime_37

set_option maxHeartbeats 4000000 in
set_option maxRecDepth 100000 in
theorem c_X3_arrive (l : Launch) (dD : va_G) (cI cR cS : ClassId) (lo : Nat) (sz : Nat) (hlo : lo ≤ sz) (m0 : Nat) (a : Nat → Nat) (th : Nat) (σ : St) (hI : sI σ) (f e v x : Int32) : Met l yX3_arrive wsX3_arrive ({ frames := 2, cells := 0, slots := 0, locals := 43 }) (ePc dD cI cR cS lo [.ref m0, .int f, .int e, .int v, .int x] (fun H => H.size = sz ∧ va_P dD vwCl (mW cI m0 a th σ) H ∧ va_D (fun q => lo ≤ q) (mW cI m0 a th σ))) (va_Qi (fun (r : Int32) (u : Nat × St) => R3 (okP f e ∧ rg v 0 (s_now σ) ∧ rg x 0 100000) (s_n σ < 200) σ (g_arrive σ (plN f e) (cl v) (cl x)) (nI (s_n σ)) r u) (fun u t => va_P dD vwCl (mW cI m0 a u.1 u.2) t.heap) (va_A (mW cI m0 a th σ) sz)) 0 0 (va_A (mW cI m0 a th σ) sz) := by
  refine Met.ofW (cc := cX3_arrive) (maxL := 6) (ret := (some .int)) (by decide) rfl ?_
  intro p e_ s m args below meth c s₁ B hml hv
  obtain ⟨rfl, hE, hsz, hP, hD0⟩ := hv
  have hx := B.exec
  have hb := B.bytes
  have hr := B.returns
  have hts := atoms_spec (ws := wsX3_arrive) B.pre
  have hown : s.vm.findClass RX3 = some m.cls := findClass_of_methodNamed B.named
  have hlocks := B.notSynchronized
  have hK := hE.1.1
  have hinX3 : ∀ w ∈ u_ws RX3 TX3 14, w ∈ wsX3_arrive := by decide +kernel
  subst hsz
  have hD := hD0.self (sz := s.heap.size)
  have hAlo : ∀ q, va_A (mW cI m0 a th σ) s.heap.size q → lo ≤ q := eA_lo hD0 hlo
  generalize hAe : va_A (mW cI m0 a th σ) s.heap.size = A at hD hAlo ⊢
  have hA : ∀ q : Nat, s.heap.size ≤ q → A q := fun q h => by rw [← hAe]; exact Or.inr h
  have hS : va_S A s.heap s.heap [] := va_S.rf
  have hP : va_P dD vwCl (mW cI m0 a th σ) s.heap := hP
  obtain ⟨i_now, i_n, i_tk, i_k, i_lt, i_row, i_cp, i_srv⟩ := id hI
  have hl := lv_entry ([.ref m0, .int f, .int e, .int v, .int x]) (n := 6) (Nat.le_of_ble_eq_true rfl)
  rw [lg_entry_eq]
  generalize (lg_sl ([.ref m0, .int f, .int e, .int v, .int x]) ++ List.replicate (6 - (lg_sl ([.ref m0, .int f, .int e, .int v, .int x])).length) Slot.unset).toArray = ls at hl ⊢
  have hl : lv_has ls 6 [(0, .ref m0), (1, .int f), (2, .int e), (3, .int v), (4, .int x)] := hl
  refine lv_iload_n hx hb dX3_arrive_0 rfl (lv_at hl 1 rfl) ?_
  refine lv_iload_n hx hb dX3_arrive_1 rfl (lv_at hl 2 rfl) ?_
  refine vp_callSi (va_Run.run (va_runS (As := [.int f, .int e]) (rest := []) ⟨hx, hb, hml, hown, hts⟩ (c_X3_isPair l dD cI cR cS lo f e) (va_cwS 2 hts gX3_arrive_X3_isPair rfl rfl rfl (by decide +kernel) ⟨Nat.le_of_ble_eq_true rfl, Nat.le_of_ble_eq_true rfl⟩) (ePreS hE (hS.mono hAlo) trivial) rfl rfl hl.1 rfl (lv_room (Nat.le_of_ble_eq_true rfl)) dX3_arrive_2 ⟨Nat.le_of_ble_eq_true rfl, Nat.le_of_ble_eq_true rfl⟩)) (fun r_2 hr_2 => ?_)
  rcases hr_2 with ⟨rfl, hr_2⟩ | ⟨rfl, hr_2⟩
  · refine nv_if_eq (tgt := 35) hx hb dX3_arrive_5 (by decide) (by decide) (fun c_5 => absurd c_5 (by decide)) (fun c_5 => ?_)
    refine lv_iload_n hx hb dX3_arrive_8 rfl (lv_at hl 3 rfl) ?_
    refine lv_iconst (v := nI 0) hx hb dX3_arrive_9 (by decide +kernel) ?_
    refine lv_aload_n hx hb dX3_arrive_10 rfl (lv_at hl 0 rfl) ?_
    refine va_get (D := dD) (ci := 3) (v := .int (nI (s_now σ))) (C := RX3) (T := TX3) (N := 14) hx hb hts hinX3 hown hK hP 0 rfl rfl 1 (by decide) (hts (.fieldLink RX3 49 "FeatureStoreModel" "now" "I") (by decide +kernel)) (fun _ h9 => h9) rfl dX3_arrive_11 ?_
    refine vp_callSi (va_Run.run (va_runS (As := [.int v, .int (nI 0), .int (nI (s_now σ))]) (rest := []) ⟨hx, hb, hml, hown, hts⟩ (c_X3_in l dD cI cR cS lo v (nI 0) (nI (s_now σ))) (va_cwS 3 hts gX3_arrive_X3_in rfl rfl rfl (by decide +kernel) ⟨Nat.le_of_ble_eq_true rfl, Nat.le_of_ble_eq_true rfl⟩) (ePreS hE (hS.mono hAlo) trivial) rfl rfl hl.1 rfl (lv_room (Nat.le_of_ble_eq_true rfl)) dX3_arrive_14 ⟨Nat.le_of_ble_eq_true rfl, Nat.le_of_ble_eq_true rfl⟩)) (fun r_14 hr_14 => ?_)
    rcases hr_14 with ⟨rfl, hr_14⟩ | ⟨rfl, hr_14⟩
    · refine nv_if_eq (tgt := 35) hx hb dX3_arrive_17 (by decide) (by decide) (fun c_17 => absurd c_17 (by decide)) (fun c_17 => ?_)
      refine lv_iload hx hb dX3_arrive_20 (lv_at hl 4 rfl) ?_
      refine lv_iconst (v := nI 0) hx hb dX3_arrive_22 (by decide +kernel) ?_
      refine lv_ldc (v := nI 100000) hx hb hown (hts (.constant RX3 52 100000) (by decide +kernel)) dX3_arrive_23 ?_
      refine vp_callSi (va_Run.run (va_runS (As := [.int x, .int (nI 0), .int (nI 100000)]) (rest := []) ⟨hx, hb, hml, hown, hts⟩ (c_X3_in l dD cI cR cS lo x (nI 0) (nI 100000)) (va_cwS 3 hts gX3_arrive_X3_in rfl rfl rfl (by decide +kernel) ⟨Nat.le_of_ble_eq_true rfl, Nat.le_of_ble_eq_true rfl⟩) (ePreS hE (hS.mono hAlo) trivial) rfl rfl hl.1 rfl (lv_room (Nat.le_of_ble_eq_true rfl)) dX3_arrive_25 ⟨Nat.le_of_ble_eq_true rfl, Nat.le_of_ble_eq_true rfl⟩)) (fun r_25 hr_25 => ?_)
      rcases hr_25 with ⟨rfl, hr_25⟩ | ⟨rfl, hr_25⟩
      · obtain ⟨fn, hfn1, hfn2, rfl⟩ := rg_of (by decide) (by decide) (hr_2.1)
        obtain ⟨en, hen1, hen2, rfl⟩ := rg_of (by decide) (by decide) (hr_2.2)
        obtain ⟨vn, hvn1, hvn2, rfl⟩ := rg_of (by decide) (by omega) (hr_14)
        obtain ⟨xn, hxn1, hxn2, rfl⟩ := rg_of (by decide) (by decide) (hr_25)
        refine nv_if_eq (tgt := 35) hx hb dX3_arrive_28 (by decide) (by decide) (fun c_28 => absurd c_28 (by decide)) (fun c_28 => ?_)
        refine lv_iconst (v := nI 1) hx hb dX3_arrive_31 (by decide +kernel) ?_
        refine lv_goto (tgt := 36) hx hb dX3_arrive_32 (by decide) ?_
        refine lv_istore (lv' := [(5, .int (nI 1)), (0, .ref m0), (1, .int (nI fn)), (2, .int (nI en)), (3, .int (nI vn)), (4, .int (nI xn))]) hx hb dX3_arrive_36 hl (by decide) rfl (fun ls hl => ?_)
        refine lv_aload_n hx hb dX3_arrive_38 rfl (lv_at hl 1 rfl) ?_
        refine lv_iload hx hb dX3_arrive_39 (lv_at hl 0 rfl) ?_
        refine nv_if_ne (tgt := 48) hx hb dX3_arrive_41 (by decide) (by decide) (fun c_41 => ?_) (fun c_41 => absurd c_41 (by decide))
        refine lv_aload_n hx hb dX3_arrive_48 rfl (lv_at hl 1 rfl) ?_
        refine va_get (D := dD) (ci := 3) (v := .int (nI (s_n σ))) (C := RX3) (T := TX3) (N := 14) hx hb hts hinX3 hown hK hP 0 rfl rfl 3 (by decide) (hts (.fieldLink RX3 53 "FeatureStoreModel" "rows" "I") (by decide +kernel)) (fun _ h9 => h9) rfl dX3_arrive_49 ?_
        refine lv_sipush (v := nI 200) hx hb dX3_arrive_52 (by decide +kernel) ?_
        refine nv_ne (tgt := 62) hx hb dX3_arrive_55 (by decide) (by omega) (by omega) (fun c_55 => ?_) (fun c_55 => ?_)
        · refine lv_iconst (v := nI 0) hx hb dX3_arrive_62 (by decide +kernel) ?_
          refine va_put (D := dD) (ci := 3) (v := .int (nI 0)) (ty := .int) (C := RX3) (T := TX3) (N := 14) hx hb hts hinX3 tyX3 tyX3_ok nmX3 hown hK hP hD hS 0 rfl rfl 0 (by decide) (hts (.fieldLink RX3 37 "FeatureStoreModel" "thrown" "I") (by decide +kernel)) (fun _ h9 => h9) rfl (by decide +kernel) rfl rfl (Nat.le_of_ble_eq_true rfl) dX3_arrive_63 (fun H locs hP hD hS => ?_)
          have hP : va_P dD vwCl [(m0, .inr (3, [.int (nI 0), .int (nI (s_now σ)), .ref (a 0), .int (nI (s_n σ)), .ref (a 1), .ref (a 2), .ref (a 3), .ref (a 4), .int (nI (s_tk σ)), .ref (a 5), .int (nI (s_k σ)), .ref (a 6), .ref (a 7), .ref (a 8)])), (a 0, .inl (cI, 6, .inl (fun j => nI (s_lt σ j)))), (a 1, .inl (cI, 200, .inl (fun j => nI (s_pr σ j)))), (a 2, .inl (cI, 200, .inl (fun j => nI (s_ev σ j)))), (a 3, .inl (cI, 200, .inl (fun j => nI (s_ar σ j)))), (a 4, .inl (cI, 200, .inl (fun j => nI (s_vl σ j)))), (a 5, .inl (cI, 60, .inl (fun j => nI (s_cp σ j)))), (a 6, .inl (cI, 200, .inl (fun j => nI (s_sp σ j)))), (a 7, .inl (cI, 200, .inl (fun j => nI (s_sa σ j)))), (a 8, .inl (cI, 200, .inl (fun j => eN (s_sv σ j))))] H := hP
          have hD : va_D A [(m0, .inr (3, [.int (nI 0), .int (nI (s_now σ)), .ref (a 0), .int (nI (s_n σ)), .ref (a 1), .ref (a 2), .ref (a 3), .ref (a 4), .int (nI (s_tk σ)), .ref (a 5), .int (nI (s_k σ)), .ref (a 6), .ref (a 7), .ref (a 8)])), (a 0, .inl (cI, 6, .inl (fun j => nI (s_lt σ j)))), (a 1, .inl (cI, 200, .inl (fun j => nI (s_pr σ j)))), (a 2, .inl (cI, 200, .inl (fun j => nI (s_ev σ j)))), (a 3, .inl (cI, 200, .inl (fun j => nI (s_ar σ j)))), (a 4, .inl (cI, 200, .inl (fun j => nI (s_vl σ j)))), (a 5, .inl (cI, 60, .inl (fun j => nI (s_cp σ j)))), (a 6, .inl (cI, 200, .inl (fun j => nI (s_sp σ j)))), (a 7, .inl (cI, 200, .inl (fun j => nI (s_sa σ j)))), (a 8, .inl (cI, 200, .inl (fun j => eN (s_sv σ j))))] := hD
          refine lv_aload_n hx hb dX3_arrive_66 rfl (lv_at hl 1 rfl) ?_
          refine va_get (D := dD) (ci := 3) (v := .int (nI 0)) (C := RX3) (T := TX3) (N := 14) hx hb hts hinX3 hown hK hP 0 rfl rfl 0 (by decide) (hts (.fieldLink RX3 37 "FeatureStoreModel" "thrown" "I") (by decide +kernel)) (fun _ h9 => h9) rfl dX3_arrive_67 ?_
          refine nv_if_le (tgt := 75) hx hb dX3_arrive_70 (by decide) (by decide) (fun c_70 => ?_) (fun c_70 => absurd c_70 (by decide))
          refine lv_aload_n hx hb dX3_arrive_75 rfl (lv_at hl 1 rfl) ?_
          refine va_get (D := dD) (ci := 3) (v := .ref (a 1)) (C := RX3) (T := TX3) (N := 14) hx hb hts hinX3 hown hK hP 0 rfl rfl 4 (by decide) (hts (.fieldLink RX3 13 "FeatureStoreModel" "pair" "[I") (by decide +kernel)) (fun _ h9 => h9) rfl dX3_arrive_76 ?_
          refine lv_aload_n hx hb dX3_arrive_79 rfl (lv_at hl 1 rfl) ?_
          refine va_get (D := dD) (ci := 3) (v := .int (nI (s_n σ))) (C := RX3) (T := TX3) (N := 14) hx hb hts hinX3 hown hK hP 0 rfl rfl 3 (by decide) (hts (.fieldLink RX3 53 "FeatureStoreModel" "rows" "I") (by decide +kernel)) (fun _ h9 => h9) rfl dX3_arrive_80 ?_
          refine lv_iload_n hx hb dX3_arrive_83 rfl (lv_at hl 2 rfl) ?_
          refine lv_iload_n hx hb dX3_arrive_84 rfl (lv_at hl 3 rfl) ?_
          refine vp_callSi (va_Run.run (va_runS (As := [.int (nI fn), .int (nI en)]) (rest := [.int (nI (s_n σ)), .ref (a 1)]) ⟨hx, hb, hml, hown, hts⟩ (c_X3_pairOf l dD cI cR cS lo fn en) (va_cwS 2 hts gX3_arrive_X3_pairOf rfl rfl rfl (by decide +kernel) ⟨Nat.le_of_ble_eq_true rfl, Nat.le_of_ble_eq_true rfl⟩) (ePreS hE (hS.mono hAlo) trivial) rfl rfl hl.1 rfl (lv_room (Nat.le_of_ble_eq_true rfl)) dX3_arrive_85 ⟨Nat.le_of_ble_eq_true rfl, Nat.le_of_ble_eq_true rfl⟩)) (fun r_85 hr_85 => ?_)
          subst hr_85
          refine nv_iast (q0 := 2) (t0 := 0) (s_pr σ) hx hb hK hP hD hS rfl rfl (by omega) (by decide) dX3_arrive_88 (fun H locs hP hD hS => ?_)
          have hP : va_P dD vwCl [(m0, .inr (3, [.int (nI 0), .int (nI (s_now σ)), .ref (a 0), .int (nI (s_n σ)), .ref (a 1), .ref (a 2), .ref (a 3), .ref (a 4), .int (nI (s_tk σ)), .ref (a 5), .int (nI (s_k σ)), .ref (a 6), .ref (a 7), .ref (a 8)])), (a 0, .inl (cI, 6, .inl (fun j => nI (s_lt σ j)))), (a 1, .inl (cI, 200, .inl (fun j => nI ((uN (s_pr σ) (s_n σ) (10 * fn + en)) j)))), (a 2, .inl (cI, 200, .inl (fun j => nI (s_ev σ j)))), (a 3, .inl (cI, 200, .inl (fun j => nI (s_ar σ j)))), (a 4, .inl (cI, 200, .inl (fun j => nI (s_vl σ j)))), (a 5, .inl (cI, 60, .inl (fun j => nI (s_cp σ j)))), (a 6, .inl (cI, 200, .inl (fun j => nI (s_sp σ j)))), (a 7, .inl (cI, 200, .inl (fun j => nI (s_sa σ j)))), (a 8, .inl (cI, 200, .inl (fun j => eN (s_sv σ j))))] H := hP
          have hD : va_D A [(m0, .inr (3, [.int (nI 0), .int (nI (s_now σ)), .ref (a 0), .int (nI (s_n σ)), .ref (a 1), .ref (a 2), .ref (a 3), .ref (a 4), .int (nI (s_tk σ)), .ref (a 5), .int (nI (s_k σ)), .ref (a 6), .ref (a 7), .ref (a 8)])), (a 0, .inl (cI, 6, .inl (fun j => nI (s_lt σ j)))), (a 1, .inl (cI, 200, .inl (fun j => nI ((uN (s_pr σ) (s_n σ) (10 * fn + en)) j)))), (a 2, .inl (cI, 200, .inl (fun j => nI (s_ev σ j)))), (a 3, .inl (cI, 200, .inl (fun j => nI (s_ar σ j)))), (a 4, .inl (cI, 200, .inl (fun j => nI (s_vl σ j)))), (a 5, .inl (cI, 60, .inl (fun j => nI (s_cp σ j)))), (a 6, .inl (cI, 200, .inl (fun j => nI (s_sp σ j)))), (a 7, .inl (cI, 200, .inl (fun j => nI (s_sa σ j)))), (a 8, .inl (cI, 200, .inl (fun j => eN (s_sv σ j))))] := hD
          refine lv_aload_n hx hb dX3_arrive_89 rfl (lv_at hl 1 rfl) ?_
          refine va_get (D := dD) (ci := 3) (v := .ref (a 2)) (C := RX3) (T := TX3) (N := 14) hx hb hts hinX3 hown hK hP 0 rfl rfl 5 (by decide) (hts (.fieldLink RX3 16 "FeatureStoreModel" "event" "[I") (by decide +kernel)) (fun _ h9 => h9) rfl dX3_arrive_90 ?_
          refine lv_aload_n hx hb dX3_arrive_93 rfl (lv_at hl 1 rfl) ?_
          refine va_get (D := dD) (ci := 3) (v := .int (nI (s_n σ))) (C := RX3) (T := TX3) (N := 14) hx hb hts hinX3 hown hK hP 0 rfl rfl 3 (by decide) (hts (.fieldLink RX3 53 "FeatureStoreModel" "rows" "I") (by decide +kernel)) (fun _ h9 => h9) rfl dX3_arrive_94 ?_
          refine lv_iload_n hx hb dX3_arrive_97 rfl (lv_at hl 4 rfl) ?_
          refine nv_iast (q0 := 3) (t0 := 0) (s_ev σ) hx hb hK hP hD hS rfl rfl (by omega) (by decide) dX3_arrive_98 (fun H locs hP hD hS => ?_)
          have hP : va_P dD vwCl [(m0, .inr (3, [.int (nI 0), .int (nI (s_now σ)), .ref (a 0), .int (nI (s_n σ)), .ref (a 1), .ref (a 2), .ref (a 3), .ref (a 4), .int (nI (s_tk σ)), .ref (a 5), .int (nI (s_k σ)), .ref (a 6), .ref (a 7), .ref (a 8)])), (a 0, .inl (cI, 6, .inl (fun j => nI (s_lt σ j)))), (a 1, .inl (cI, 200, .inl (fun j => nI ((uN (s_pr σ) (s_n σ) (10 * fn + en)) j)))), (a 2, .inl (cI, 200, .inl (fun j => nI ((uN (s_ev σ) (s_n σ) vn) j)))), (a 3, .inl (cI, 200, .inl (fun j => nI (s_ar σ j)))), (a 4, .inl (cI, 200, .inl (fun j => nI (s_vl σ j)))), (a 5, .inl (cI, 60, .inl (fun j => nI (s_cp σ j)))), (a 6, .inl (cI, 200, .inl (fun j => nI (s_sp σ j)))), (a 7, .inl (cI, 200, .inl (fun j => nI (s_sa σ j)))), (a 8, .inl (cI, 200, .inl (fun j => eN (s_sv σ j))))] H := hP
          have hD : va_D A [(m0, .inr (3, [.int (nI 0), .int (nI (s_now σ)), .ref (a 0), .int (nI (s_n σ)), .ref (a 1), .ref (a 2), .ref (a 3), .ref (a 4), .int (nI (s_tk σ)), .ref (a 5), .int (nI (s_k σ)), .ref (a 6), .ref (a 7), .ref (a 8)])), (a 0, .inl (cI, 6, .inl (fun j => nI (s_lt σ j)))), (a 1, .inl (cI, 200, .inl (fun j => nI ((uN (s_pr σ) (s_n σ) (10 * fn + en)) j)))), (a 2, .inl (cI, 200, .inl (fun j => nI ((uN (s_ev σ) (s_n σ) vn) j)))), (a 3, .inl (cI, 200, .inl (fun j => nI (s_ar σ j)))), (a 4, .inl (cI, 200, .inl (fun j => nI (s_vl σ j)))), (a 5, .inl (cI, 60, .inl (fun j => nI (s_cp σ j)))), (a 6, .inl (cI, 200, .inl (fun j => nI (s_sp σ j)))), (a 7, .inl (cI, 200, .inl (fun j => nI (s_sa σ j)))), (a 8, .inl (cI, 200, .inl (fun j => eN (s_sv σ j))))] := hD
          refine lv_aload_n hx hb dX3_arrive_99 rfl (lv_at hl 1 rfl) ?_
          refine va_get (D := dD) (ci := 3) (v := .ref (a 3)) (C := RX3) (T := TX3) (N := 14) hx hb hts hinX3 hown hK hP 0 rfl rfl 6 (by decide) (hts (.fieldLink RX3 19 "FeatureStoreModel" "arrival" "[I") (by decide +kernel)) (fun _ h9 => h9) rfl dX3_arrive_100 ?_
          refine lv_aload_n hx hb dX3_arrive_103 rfl (lv_at hl 1 rfl) ?_
          refine va_get (D := dD) (ci := 3) (v := .int (nI (s_n σ))) (C := RX3) (T := TX3) (N := 14) hx hb hts hinX3 hown hK hP 0 rfl rfl 3 (by decide) (hts (.fieldLink RX3 53 "FeatureStoreModel" "rows" "I") (by decide +kernel)) (fun _ h9 => h9) rfl dX3_arrive_104 ?_
          refine lv_aload_n hx hb dX3_arrive_107 rfl (lv_at hl 1 rfl) ?_
          refine va_get (D := dD) (ci := 3) (v := .int (nI (s_now σ))) (C := RX3) (T := TX3) (N := 14) hx hb hts hinX3 hown hK hP 0 rfl rfl 1 (by decide) (hts (.fieldLink RX3 49 "FeatureStoreModel" "now" "I") (by decide +kernel)) (fun _ h9 => h9) rfl dX3_arrive_108 ?_
          refine nv_iast (q0 := 4) (t0 := 0) (s_ar σ) hx hb hK hP hD hS rfl rfl (by omega) (by decide) dX3_arrive_111 (fun H locs hP hD hS => ?_)
          have hP : va_P dD vwCl [(m0, .inr (3, [.int (nI 0), .int (nI (s_now σ)), .ref (a 0), .int (nI (s_n σ)), .ref (a 1), .ref (a 2), .ref (a 3), .ref (a 4), .int (nI (s_tk σ)), .ref (a 5), .int (nI (s_k σ)), .ref (a 6), .ref (a 7), .ref (a 8)])), (a 0, .inl (cI, 6, .inl (fun j => nI (s_lt σ j)))), (a 1, .inl (cI, 200, .inl (fun j => nI ((uN (s_pr σ) (s_n σ) (10 * fn + en)) j)))), (a 2, .inl (cI, 200, .inl (fun j => nI ((uN (s_ev σ) (s_n σ) vn) j)))), (a 3, .inl (cI, 200, .inl (fun j => nI ((uN (s_ar σ) (s_n σ) (s_now σ)) j)))), (a 4, .inl (cI, 200, .inl (fun j => nI (s_vl σ j)))), (a 5, .inl (cI, 60, .inl (fun j => nI (s_cp σ j)))), (a 6, .inl (cI, 200, .inl (fun j => nI (s_sp σ j)))), (a 7, .inl (cI, 200, .inl (fun j => nI (s_sa σ j)))), (a 8, .inl (cI, 200, .inl (fun j => eN (s_sv σ j))))] H := hP
          have hD : va_D A [(m0, .inr (3, [.int (nI 0), .int (nI (s_now σ)), .ref (a 0), .int (nI (s_n σ)), .ref (a 1), .ref (a 2), .ref (a 3), .ref (a 4), .int (nI (s_tk σ)), .ref (a 5), .int (nI (s_k σ)), .ref (a 6), .ref (a 7), .ref (a 8)])), (a 0, .inl (cI, 6, .inl (fun j => nI (s_lt σ j)))), (a 1, .inl (cI, 200, .inl (fun j => nI ((uN (s_pr σ) (s_n σ) (10 * fn + en)) j)))), (a 2, .inl (cI, 200, .inl (fun j => nI ((uN (s_ev σ) (s_n σ) vn) j)))), (a 3, .inl (cI, 200, .inl (fun j => nI ((uN (s_ar σ) (s_n σ) (s_now σ)) j)))), (a 4, .inl (cI, 200, .inl (fun j => nI (s_vl σ j)))), (a 5, .inl (cI, 60, .inl (fun j => nI (s_cp σ j)))), (a 6, .inl (cI, 200, .inl (fun j => nI (s_sp σ j)))), (a 7, .inl (cI, 200, .inl (fun j => nI (s_sa σ j)))), (a 8, .inl (cI, 200, .inl (fun j => eN (s_sv σ j))))] := hD
          refine lv_aload_n hx hb dX3_arrive_112 rfl (lv_at hl 1 rfl) ?_
          refine va_get (D := dD) (ci := 3) (v := .ref (a 4)) (C := RX3) (T := TX3) (N := 14) hx hb hts hinX3 hown hK hP 0 rfl rfl 7 (by decide) (hts (.fieldLink RX3 22 "FeatureStoreModel" "value" "[I") (by decide +kernel)) (fun _ h9 => h9) rfl dX3_arrive_113 ?_
          refine lv_aload_n hx hb dX3_arrive_116 rfl (lv_at hl 1 rfl) ?_
          refine va_get (D := dD) (ci := 3) (v := .int (nI (s_n σ))) (C := RX3) (T := TX3) (N := 14) hx hb hts hinX3 hown hK hP 0 rfl rfl 3 (by decide) (hts (.fieldLink RX3 53 "FeatureStoreModel" "rows" "I") (by decide +kernel)) (fun _ h9 => h9) rfl dX3_arrive_117 ?_
          refine lv_iload hx hb dX3_arrive_120 (lv_at hl 5 rfl) ?_
          refine nv_iast (q0 := 5) (t0 := 0) (s_vl σ) hx hb hK hP hD hS rfl rfl (by omega) (by decide) dX3_arrive_122 (fun H locs hP hD hS => ?_)
          have hP : va_P dD vwCl [(m0, .inr (3, [.int (nI 0), .int (nI (s_now σ)), .ref (a 0), .int (nI (s_n σ)), .ref (a 1), .ref (a 2), .ref (a 3), .ref (a 4), .int (nI (s_tk σ)), .ref (a 5), .int (nI (s_k σ)), .ref (a 6), .ref (a 7), .ref (a 8)])), (a 0, .inl (cI, 6, .inl (fun j => nI (s_lt σ j)))), (a 1, .inl (cI, 200, .inl (fun j => nI ((uN (s_pr σ) (s_n σ) (10 * fn + en)) j)))), (a 2, .inl (cI, 200, .inl (fun j => nI ((uN (s_ev σ) (s_n σ) vn) j)))), (a 3, .inl (cI, 200, .inl (fun j => nI ((uN (s_ar σ) (s_n σ) (s_now σ)) j)))), (a 4, .inl (cI, 200, .inl (fun j => nI ((uN (s_vl σ) (s_n σ) xn) j)))), (a 5, .inl (cI, 60, .inl (fun j => nI (s_cp σ j)))), (a 6, .inl (cI, 200, .inl (fun j => nI (s_sp σ j)))), (a 7, .inl (cI, 200, .inl (fun j => nI (s_sa σ j)))), (a 8, .inl (cI, 200, .inl (fun j => eN (s_sv σ j))))] H := hP
          have hD : va_D A [(m0, .inr (3, [.int (nI 0), .int (nI (s_now σ)), .ref (a 0), .int (nI (s_n σ)), .ref (a 1), .ref (a 2), .ref (a 3), .ref (a 4), .int (nI (s_tk σ)), .ref (a 5), .int (nI (s_k σ)), .ref (a 6), .ref (a 7), .ref (a 8)])), (a 0, .inl (cI, 6, .inl (fun j => nI (s_lt σ j)))), (a 1, .inl (cI, 200, .inl (fun j => nI ((uN (s_pr σ) (s_n σ) (10 * fn + en)) j)))), (a 2, .inl (cI, 200, .inl (fun j => nI ((uN (s_ev σ) (s_n σ) vn) j)))), (a 3, .inl (cI, 200, .inl (fun j => nI ((uN (s_ar σ) (s_n σ) (s_now σ)) j)))), (a 4, .inl (cI, 200, .inl (fun j => nI ((uN (s_vl σ) (s_n σ) xn) j)))), (a 5, .inl (cI, 60, .inl (fun j => nI (s_cp σ j)))), (a 6, .inl (cI, 200, .inl (fun j => nI (s_sp σ j)))), (a 7, .inl (cI, 200, .inl (fun j => nI (s_sa σ j)))), (a 8, .inl (cI, 200, .inl (fun j => eN (s_sv σ j))))] := hD
          refine lv_aload_n hx hb dX3_arrive_123 rfl (lv_at hl 1 rfl) ?_
          refine lv_dup hx hb dX3_arrive_124 rfl ?_
          refine va_get (D := dD) (ci := 3) (v := .int (nI (s_n σ))) (C := RX3) (T := TX3) (N := 14) hx hb hts hinX3 hown hK hP 0 rfl rfl 3 (by decide) (hts (.fieldLink RX3 53 "FeatureStoreModel" "rows" "I") (by decide +kernel)) (fun _ h9 => h9) rfl dX3_arrive_125 ?_
          refine lv_iconst (v := nI 1) hx hb dX3_arrive_128 (by decide +kernel) ?_
          refine nv_iadd hx hb dX3_arrive_129 ?_
          refine va_put (D := dD) (ci := 3) (v := .int (nI ((s_n σ) + 1))) (ty := .int) (C := RX3) (T := TX3) (N := 14) hx hb hts hinX3 tyX3 tyX3_ok nmX3 hown hK hP hD hS 0 rfl rfl 3 (by decide) (hts (.fieldLink RX3 53 "FeatureStoreModel" "rows" "I") (by decide +kernel)) (fun _ h9 => h9) rfl (by decide +kernel) rfl rfl (Nat.le_of_ble_eq_true rfl) dX3_arrive_130 (fun H locs hP hD hS => ?_)
          have hP : va_P dD vwCl [(m0, .inr (3, [.int (nI 0), .int (nI (s_now σ)), .ref (a 0), .int (nI ((s_n σ) + 1)), .ref (a 1), .ref (a 2), .ref (a 3), .ref (a 4), .int (nI (s_tk σ)), .ref (a 5), .int (nI (s_k σ)), .ref (a 6), .ref (a 7), .ref (a 8)])), (a 0, .inl (cI, 6, .inl (fun j => nI (s_lt σ j)))), (a 1, .inl (cI, 200, .inl (fun j => nI ((uN (s_pr σ) (s_n σ) (10 * fn + en)) j)))), (a 2, .inl (cI, 200, .inl (fun j => nI ((uN (s_ev σ) (s_n σ) vn) j)))), (a 3, .inl (cI, 200, .inl (fun j => nI ((uN (s_ar σ) (s_n σ) (s_now σ)) j)))), (a 4, .inl (cI, 200, .inl (fun j => nI ((uN (s_vl σ) (s_n σ) xn) j)))), (a 5, .inl (cI, 60, .inl (fun j => nI (s_cp σ j)))), (a 6, .inl (cI, 200, .inl (fun j => nI (s_sp σ j)))), (a 7, .inl (cI, 200, .inl (fun j => nI (s_sa σ j)))), (a 8, .inl (cI, 200, .inl (fun j => eN (s_sv σ j))))] H := hP
          have hD : va_D A [(m0, .inr (3, [.int (nI 0), .int (nI (s_now σ)), .ref (a 0), .int (nI ((s_n σ) + 1)), .ref (a 1), .ref (a 2), .ref (a 3), .ref (a 4), .int (nI (s_tk σ)), .ref (a 5), .int (nI (s_k σ)), .ref (a 6), .ref (a 7), .ref (a 8)])), (a 0, .inl (cI, 6, .inl (fun j => nI (s_lt σ j)))), (a 1, .inl (cI, 200, .inl (fun j => nI ((uN (s_pr σ) (s_n σ) (10 * fn + en)) j)))), (a 2, .inl (cI, 200, .inl (fun j => nI ((uN (s_ev σ) (s_n σ) vn) j)))), (a 3, .inl (cI, 200, .inl (fun j => nI ((uN (s_ar σ) (s_n σ) (s_now σ)) j)))), (a 4, .inl (cI, 200, .inl (fun j => nI ((uN (s_vl σ) (s_n σ) xn) j)))), (a 5, .inl (cI, 60, .inl (fun j => nI (s_cp σ j)))), (a 6, .inl (cI, 200, .inl (fun j => nI (s_sp σ j)))), (a 7, .inl (cI, 200, .inl (fun j => nI (s_sa σ j)))), (a 8, .inl (cI, 200, .inl (fun j => eN (s_sv σ j))))] := hD
          refine lv_aload_n hx hb dX3_arrive_133 rfl (lv_at hl 1 rfl) ?_
          refine va_get (D := dD) (ci := 3) (v := .int (nI ((s_n σ) + 1))) (C := RX3) (T := TX3) (N := 14) hx hb hts hinX3 hown hK hP 0 rfl rfl 3 (by decide) (hts (.fieldLink RX3 53 "FeatureStoreModel" "rows" "I") (by decide +kernel)) (fun _ h9 => h9) rfl dX3_arrive_134 ?_
          refine lv_iconst (v := nI 1) hx hb dX3_arrive_137 (by decide +kernel) ?_
          refine nv_isub hx hb dX3_arrive_138 (by omega) ?_
          exact W.iret (v := nI (((s_n σ) + 1) - 1)) hx hb hr (fun u9 hu9 hW => ⟨⟨nI (((s_n σ) + 1) - 1), (0, g_arrive σ (10 * fn + en) vn xn), rfl, Or.inl ⟨⟨hr_2, hr_14, hr_25⟩, by omega, by rw [plN, cl_nI (by omega), cl_nI (by omega), cl_nI (by omega), cl_nI (by omega)], by show nI (s_n σ + 1 - 1) = _; rw [Nat.add_sub_cancel]⟩, by have h9 := hP; rw [← hu9] at h9; exact h9⟩, hS.F hu9⟩) hS.2.2 dX3_arrive_139
        · refine lv_iconst (v := nI 2) hx hb dX3_arrive_58 (by decide +kernel) ?_
          refine lv_goto (tgt := 63) hx hb dX3_arrive_59 (by decide) ?_
          refine va_put (D := dD) (ci := 3) (v := .int (nI 2)) (ty := .int) (C := RX3) (T := TX3) (N := 14) hx hb hts hinX3 tyX3 tyX3_ok nmX3 hown hK hP hD hS 0 rfl rfl 0 (by decide) (hts (.fieldLink RX3 37 "FeatureStoreModel" "thrown" "I") (by decide +kernel)) (fun _ h9 => h9) rfl (by decide +kernel) rfl rfl (Nat.le_of_ble_eq_true rfl) dX3_arrive_63 (fun H locs hP hD hS => ?_)
          have hP : va_P dD vwCl [(m0, .inr (3, [.int (nI 2), .int (nI (s_now σ)), .ref (a 0), .int (nI (s_n σ)), .ref (a 1), .ref (a 2), .ref (a 3), .ref (a 4), .int (nI (s_tk σ)), .ref (a 5), .int (nI (s_k σ)), .ref (a 6), .ref (a 7), .ref (a 8)])), (a 0, .inl (cI, 6, .inl (fun j => nI (s_lt σ j)))), (a 1, .inl (cI, 200, .inl (fun j => nI (s_pr σ j)))), (a 2, .inl (cI, 200, .inl (fun j => nI (s_ev σ j)))), (a 3, .inl (cI, 200, .inl (fun j => nI (s_ar σ j)))), (a 4, .inl (cI, 200, .inl (fun j => nI (s_vl σ j)))), (a 5, .inl (cI, 60, .inl (fun j => nI (s_cp σ j)))), (a 6, .inl (cI, 200, .inl (fun j => nI (s_sp σ j)))), (a 7, .inl (cI, 200, .inl (fun j => nI (s_sa σ j)))), (a 8, .inl (cI, 200, .inl (fun j => eN (s_sv σ j))))] H := hP
          have hD : va_D A [(m0, .inr (3, [.int (nI 2), .int (nI (s_now σ)), .ref (a 0), .int (nI (s_n σ)), .ref (a 1), .ref (a 2), .ref (a 3), .ref (a 4), .int (nI (s_tk σ)), .ref (a 5), .int (nI (s_k σ)), .ref (a 6), .ref (a 7), .ref (a 8)])), (a 0, .inl (cI, 6, .inl (fun j => nI (s_lt σ j)))), (a 1, .inl (cI, 200, .inl (fun j => nI (s_pr σ j)))), (a 2, .inl (cI, 200, .inl (fun j => nI (s_ev σ j)))), (a 3, .inl (cI, 200, .inl (fun j => nI (s_ar σ j)))), (a 4, .inl (cI, 200, .inl (fun j => nI (s_vl σ j)))), (a 5, .inl (cI, 60, .inl (fun j => nI (s_cp σ j)))), (a 6, .inl (cI, 200, .inl (fun j => nI (s_sp σ j)))), (a 7, .inl (cI, 200, .inl (fun j => nI (s_sa σ j)))), (a 8, .inl (cI, 200, .inl (fun j => eN (s_sv σ j))))] := hD
          refine lv_aload_n hx hb dX3_arrive_66 rfl (lv_at hl 1 rfl) ?_
          refine va_get (D := dD) (ci := 3) (v := .int (nI 2)) (C := RX3) (T := TX3) (N := 14) hx hb hts hinX3 hown hK hP 0 rfl rfl 0 (by decide) (hts (.fieldLink RX3 37 "FeatureStoreModel" "thrown" "I") (by decide +kernel)) (fun _ h9 => h9) rfl dX3_arrive_67 ?_
          refine nv_if_le (tgt := 75) hx hb dX3_arrive_70 (by decide) (by decide) (fun c_70 => absurd c_70 (by decide)) (fun c_70 => ?_)
          refine lv_iconst (v := nI 0) hx hb dX3_arrive_73 (by decide +kernel) ?_
          exact W.iret (v := nI 0) hx hb hr (fun u9 hu9 hW => ⟨⟨nI 0, (2, σ), rfl, Or.inr (Or.inr ⟨⟨hr_2, hr_14, hr_25⟩, by omega, rfl⟩), by have h9 := hP; rw [← hu9] at h9; exact h9⟩, hS.F hu9⟩) hS.2.2 dX3_arrive_74
      · refine nv_if_eq (tgt := 35) hx hb dX3_arrive_28 (by decide) (by decide) (fun c_28 => ?_) (fun c_28 => absurd c_28 (by decide))
        refine lv_iconst (v := nI 0) hx hb dX3_arrive_35 (by decide +kernel) ?_
        refine lv_istore (lv' := [(5, .int (nI 0)), (0, .ref m0), (1, .int f), (2, .int e), (3, .int v), (4, .int x)]) hx hb dX3_arrive_36 hl (by decide) rfl (fun ls hl => ?_)
        refine lv_aload_n hx hb dX3_arrive_38 rfl (lv_at hl 1 rfl) ?_
        refine lv_iload hx hb dX3_arrive_39 (lv_at hl 0 rfl) ?_
        refine nv_if_ne (tgt := 48) hx hb dX3_arrive_41 (by decide) (by decide) (fun c_41 => absurd c_41 (by decide)) (fun c_41 => ?_)
        refine lv_iconst (v := nI 1) hx hb dX3_arrive_44 (by decide +kernel) ?_
        refine lv_goto (tgt := 63) hx hb dX3_arrive_45 (by decide) ?_
        refine va_put (D := dD) (ci := 3) (v := .int (nI 1)) (ty := .int) (C := RX3) (T := TX3) (N := 14) hx hb hts hinX3 tyX3 tyX3_ok nmX3 hown hK hP hD hS 0 rfl rfl 0 (by decide) (hts (.fieldLink RX3 37 "FeatureStoreModel" "thrown" "I") (by decide +kernel)) (fun _ h9 => h9) rfl (by decide +kernel) rfl rfl (Nat.le_of_ble_eq_true rfl) dX3_arrive_63 (fun H locs hP hD hS => ?_)
        have hP : va_P dD vwCl [(m0, .inr (3, [.int (nI 1), .int (nI (s_now σ)), .ref (a 0), .int (nI (s_n σ)), .ref (a 1), .ref (a 2), .ref (a 3), .ref (a 4), .int (nI (s_tk σ)), .ref (a 5), .int (nI (s_k σ)), .ref (a 6), .ref (a 7), .ref (a 8)])), (a 0, .inl (cI, 6, .inl (fun j => nI (s_lt σ j)))), (a 1, .inl (cI, 200, .inl (fun j => nI (s_pr σ j)))), (a 2, .inl (cI, 200, .inl (fun j => nI (s_ev σ j)))), (a 3, .inl (cI, 200, .inl (fun j => nI (s_ar σ j)))), (a 4, .inl (cI, 200, .inl (fun j => nI (s_vl σ j)))), (a 5, .inl (cI, 60, .inl (fun j => nI (s_cp σ j)))), (a 6, .inl (cI, 200, .inl (fun j => nI (s_sp σ j)))), (a 7, .inl (cI, 200, .inl (fun j => nI (s_sa σ j)))), (a 8, .inl (cI, 200, .inl (fun j => eN (s_sv σ j))))] H := hP
        have hD : va_D A [(m0, .inr (3, [.int (nI 1), .int (nI (s_now σ)), .ref (a 0), .int (nI (s_n σ)), .ref (a 1), .ref (a 2), .ref (a 3), .ref (a 4), .int (nI (s_tk σ)), .ref (a 5), .int (nI (s_k σ)), .ref (a 6), .ref (a 7), .ref (a 8)])), (a 0, .inl (cI, 6, .inl (fun j => nI (s_lt σ j)))), (a 1, .inl (cI, 200, .inl (fun j => nI (s_pr σ j)))), (a 2, .inl (cI, 200, .inl (fun j => nI (s_ev σ j)))), (a 3, .inl (cI, 200, .inl (fun j => nI (s_ar σ j)))), (a 4, .inl (cI, 200, .inl (fun j => nI (s_vl σ j)))), (a 5, .inl (cI, 60, .inl (fun j => nI (s_cp σ j)))), (a 6, .inl (cI, 200, .inl (fun j => nI (s_sp σ j)))), (a 7, .inl (cI, 200, .inl (fun j => nI (s_sa σ j)))), (a 8, .inl (cI, 200, .inl (fun j => eN (s_sv σ j))))] := hD
        refine lv_aload_n hx hb dX3_arrive_66 rfl (lv_at hl 1 rfl) ?_
        refine va_get (D := dD) (ci := 3) (v := .int (nI 1)) (C := RX3) (T := TX3) (N := 14) hx hb hts hinX3 hown hK hP 0 rfl rfl 0 (by decide) (hts (.fieldLink RX3 37 "FeatureStoreModel" "thrown" "I") (by decide +kernel)) (fun _ h9 => h9) rfl dX3_arrive_67 ?_
        refine nv_if_le (tgt := 75) hx hb dX3_arrive_70 (by decide) (by decide) (fun c_70 => absurd c_70 (by decide)) (fun c_70 => ?_)
        refine lv_iconst (v := nI 0) hx hb dX3_arrive_73 (by decide +kernel) ?_
        exact W.iret (v := nI 0) hx hb hr (fun u9 hu9 hW => ⟨⟨nI 0, (1, σ), rfl, Or.inr (Or.inl ⟨fun h => hr_25 h.2.2, rfl⟩), by have h9 := hP; rw [← hu9] at h9; exact h9⟩, hS.F hu9⟩) hS.2.2 dX3_arrive_74
    · refine nv_if_eq (tgt := 35) hx hb dX3_arrive_17 (by decide) (by decide) (fun c_17 => ?_) (fun c_17 => absurd c_17 (by decide))
      refine lv_iconst (v := nI 0) hx hb dX3_arrive_35 (by decide +kernel) ?_
      refine lv_istore (lv' := [(5, .int (nI 0)), (0, .ref m0), (1, .int f), (2, .int e), (3, .int v), (4, .int x)]) hx hb dX3_arrive_36 hl (by decide) rfl (fun ls hl => ?_)
      refine lv_aload_n hx hb dX3_arrive_38 rfl (lv_at hl 1 rfl) ?_
      refine lv_iload hx hb dX3_arrive_39 (lv_at hl 0 rfl) ?_
      refine nv_if_ne (tgt := 48) hx hb dX3_arrive_41 (by decide) (by decide) (fun c_41 => absurd c_41 (by decide)) (fun c_41 => ?_)
      refine lv_iconst (v := nI 1) hx hb dX3_arrive_44 (by decide +kernel) ?_
      refine lv_goto (tgt := 63) hx hb dX3_arrive_45 (by decide) ?_
      refine va_put (D := dD) (ci := 3) (v := .int (nI 1)) (ty := .int) (C := RX3) (T := TX3) (N := 14) hx hb hts hinX3 tyX3 tyX3_ok nmX3 hown hK hP hD hS 0 rfl rfl 0 (by decide) (hts (.fieldLink RX3 37 "FeatureStoreModel" "thrown" "I") (by decide +kernel)) (fun _ h9 => h9) rfl (by decide +kernel) rfl rfl (Nat.le_of_ble_eq_true rfl) dX3_arrive_63 (fun H locs hP hD hS => ?_)
      have hP : va_P dD vwCl [(m0, .inr (3, [.int (nI 1), .int (nI (s_now σ)), .ref (a 0), .int (nI (s_n σ)), .ref (a 1), .ref (a 2), .ref (a 3), .ref (a 4), .int (nI (s_tk σ)), .ref (a 5), .int (nI (s_k σ)), .ref (a 6), .ref (a 7), .ref (a 8)])), (a 0, .inl (cI, 6, .inl (fun j => nI (s_lt σ j)))), (a 1, .inl (cI, 200, .inl (fun j => nI (s_pr σ j)))), (a 2, .inl (cI, 200, .inl (fun j => nI (s_ev σ j)))), (a 3, .inl (cI, 200, .inl (fun j => nI (s_ar σ j)))), (a 4, .inl (cI, 200, .inl (fun j => nI (s_vl σ j)))), (a 5, .inl (cI, 60, .inl (fun j => nI (s_cp σ j)))), (a 6, .inl (cI, 200, .inl (fun j => nI (s_sp σ j)))), (a 7, .inl (cI, 200, .inl (fun j => nI (s_sa σ j)))), (a 8, .inl (cI, 200, .inl (fun j => eN (s_sv σ j))))] H := hP
      have hD : va_D A [(m0, .inr (3, [.int (nI 1), .int (nI (s_now σ)), .ref (a 0), .int (nI (s_n σ)), .ref (a 1), .ref (a 2), .ref (a 3), .ref (a 4), .int (nI (s_tk σ)), .ref (a 5), .int (nI (s_k σ)), .ref (a 6), .ref (a 7), .ref (a 8)])), (a 0, .inl (cI, 6, .inl (fun j => nI (s_lt σ j)))), (a 1, .inl (cI, 200, .inl (fun j => nI (s_pr σ j)))), (a 2, .inl (cI, 200, .inl (fun j => nI (s_ev σ j)))), (a 3, .inl (cI, 200, .inl (fun j => nI (s_ar σ j)))), (a 4, .inl (cI, 200, .inl (fun j => nI (s_vl σ j)))), (a 5, .inl (cI, 60, .inl (fun j => nI (s_cp σ j)))), (a 6, .inl (cI, 200, .inl (fun j => nI (s_sp σ j)))), (a 7, .inl (cI, 200, .inl (fun j => nI (s_sa σ j)))), (a 8, .inl (cI, 200, .inl (fun j => eN (s_sv σ j))))] := hD
      refine lv_aload_n hx hb dX3_arrive_66 rfl (lv_at hl 1 rfl) ?_
      refine va_get (D := dD) (ci := 3) (v := .int (nI 1)) (C := RX3) (T := TX3) (N := 14) hx hb hts hinX3 hown hK hP 0 rfl rfl 0 (by decide) (hts (.fieldLink RX3 37 "FeatureStoreModel" "thrown" "I") (by decide +kernel)) (fun _ h9 => h9) rfl dX3_arrive_67 ?_
      refine nv_if_le (tgt := 75) hx hb dX3_arrive_70 (by decide) (by decide) (fun c_70 => absurd c_70 (by decide)) (fun c_70 => ?_)
      refine lv_iconst (v := nI 0) hx hb dX3_arrive_73 (by decide +kernel) ?_
      exact W.iret (v := nI 0) hx hb hr (fun u9 hu9 hW => ⟨⟨nI 0, (1, σ), rfl, Or.inr (Or.inl ⟨fun h => hr_14 h.2.1, rfl⟩), by have h9 := hP; rw [← hu9] at h9; exact h9⟩, hS.F hu9⟩) hS.2.2 dX3_arrive_74
  · refine nv_if_eq (tgt := 35) hx hb dX3_arrive_5 (by decide) (by decide) (fun c_5 => ?_) (fun c_5 => absurd c_5 (by decide))
    refine lv_iconst (v := nI 0) hx hb dX3_arrive_35 (by decide +kernel) ?_
    refine lv_istore (lv' := [(5, .int (nI 0)), (0, .ref m0), (1, .int f), (2, .int e), (3, .int v), (4, .int x)]) hx hb dX3_arrive_36 hl (by decide) rfl (fun ls hl => ?_)
    refine lv_aload_n hx hb dX3_arrive_38 rfl (lv_at hl 1 rfl) ?_
    refine lv_iload hx hb dX3_arrive_39 (lv_at hl 0 rfl) ?_
    refine nv_if_ne (tgt := 48) hx hb dX3_arrive_41 (by decide) (by decide) (fun c_41 => absurd c_41 (by decide)) (fun c_41 => ?_)
    refine lv_iconst (v := nI 1) hx hb dX3_arrive_44 (by decide +kernel) ?_
    refine lv_goto (tgt := 63) hx hb dX3_arrive_45 (by decide) ?_
    refine va_put (D := dD) (ci := 3) (v := .int (nI 1)) (ty := .int) (C := RX3) (T := TX3) (N := 14) hx hb hts hinX3 tyX3 tyX3_ok nmX3 hown hK hP hD hS 0 rfl rfl 0 (by decide) (hts (.fieldLink RX3 37 "FeatureStoreModel" "thrown" "I") (by decide +kernel)) (fun _ h9 => h9) rfl (by decide +kernel) rfl rfl (Nat.le_of_ble_eq_true rfl) dX3_arrive_63 (fun H locs hP hD hS => ?_)
    have hP : va_P dD vwCl [(m0, .inr (3, [.int (nI 1), .int (nI (s_now σ)), .ref (a 0), .int (nI (s_n σ)), .ref (a 1), .ref (a 2), .ref (a 3), .ref (a 4), .int (nI (s_tk σ)), .ref (a 5), .int (nI (s_k σ)), .ref (a 6), .ref (a 7), .ref (a 8)])), (a 0, .inl (cI, 6, .inl (fun j => nI (s_lt σ j)))), (a 1, .inl (cI, 200, .inl (fun j => nI (s_pr σ j)))), (a 2, .inl (cI, 200, .inl (fun j => nI (s_ev σ j)))), (a 3, .inl (cI, 200, .inl (fun j => nI (s_ar σ j)))), (a 4, .inl (cI, 200, .inl (fun j => nI (s_vl σ j)))), (a 5, .inl (cI, 60, .inl (fun j => nI (s_cp σ j)))), (a 6, .inl (cI, 200, .inl (fun j => nI (s_sp σ j)))), (a 7, .inl (cI, 200, .inl (fun j => nI (s_sa σ j)))), (a 8, .inl (cI, 200, .inl (fun j => eN (s_sv σ j))))] H := hP
    have hD : va_D A [(m0, .inr (3, [.int (nI 1), .int (nI (s_now σ)), .ref (a 0), .int (nI (s_n σ)), .ref (a 1), .ref (a 2), .ref (a 3), .ref (a 4), .int (nI (s_tk σ)), .ref (a 5), .int (nI (s_k σ)), .ref (a 6), .ref (a 7), .ref (a 8)])), (a 0, .inl (cI, 6, .inl (fun j => nI (s_lt σ j)))), (a 1, .inl (cI, 200, .inl (fun j => nI (s_pr σ j)))), (a 2, .inl (cI, 200, .inl (fun j => nI (s_ev σ j)))), (a 3, .inl (cI, 200, .inl (fun j => nI (s_ar σ j)))), (a 4, .inl (cI, 200, .inl (fun j => nI (s_vl σ j)))), (a 5, .inl (cI, 60, .inl (fun j => nI (s_cp σ j)))), (a 6, .inl (cI, 200, .inl (fun j => nI (s_sp σ j)))), (a 7, .inl (cI, 200, .inl (fun j => nI (s_sa σ j)))), (a 8, .inl (cI, 200, .inl (fun j => eN (s_sv σ j))))] := hD
    refine lv_aload_n hx hb dX3_arrive_66 rfl (lv_at hl 1 rfl) ?_
    refine va_get (D := dD) (ci := 3) (v := .int (nI 1)) (C := RX3) (T := TX3) (N := 14) hx hb hts hinX3 hown hK hP 0 rfl rfl 0 (by decide) (hts (.fieldLink RX3 37 "FeatureStoreModel" "thrown" "I") (by decide +kernel)) (fun _ h9 => h9) rfl dX3_arrive_67 ?_
    refine nv_if_le (tgt := 75) hx hb dX3_arrive_70 (by decide) (by decide) (fun c_70 => absurd c_70 (by decide)) (fun c_70 => ?_)
    refine lv_iconst (v := nI 0) hx hb dX3_arrive_73 (by decide +kernel) ?_
    exact W.iret (v := nI 0) hx hb hr (fun u9 hu9 hW => ⟨⟨nI 0, (1, σ), rfl, Or.inr (Or.inl ⟨fun h => hr_2 h.1, rfl⟩), by have h9 := hP; rw [← hu9] at h9; exact h9⟩, hS.F hu9⟩) hS.2.2 dX3_arrive_74

set_option maxHeartbeats 4000000 in
set_option maxRecDepth 100000 in
theorem c_X3_asksRow (l : Launch) (dD : va_G) (cI cR cS : ClassId) (lo : Nat) (sz : Nat) (hlo : lo ≤ sz) (m0 : Nat) (a : Nat → Nat) (th : Nat) (σ : St) (hI : sI σ) (x : Int32) : Met l yX3_asksRow wsX3_asksRow ({ frames := 1, cells := 0, slots := 0, locals := 22 }) (ePc dD cI cR cS lo [.ref m0, .int x] (fun H => H.size = sz ∧ va_P dD vwCl (mW cI m0 a th σ) H ∧ va_D (fun q => lo ≤ q) (mW cI m0 a th σ))) (va_Qi (fun (r : Int32) (u : Nat × St) => (ri x (s_n σ) ∧ u = (0, σ) ∧ r = nI 1) ∨ (¬ ri x (s_n σ) ∧ u = (1, σ) ∧ r = nI 0)) (fun u t => va_P dD vwCl (mW cI m0 a u.1 u.2) t.heap) (va_A (mW cI m0 a th σ) sz)) 0 0 (va_A (mW cI m0 a th σ) sz) := by
  refine Met.ofW (cc := cX3_asksRow) (maxL := 2) (ret := (some .boolean)) (by decide) rfl ?_
  intro p e_ s m args below meth c s₁ B hml hv
  obtain ⟨rfl, hE, hsz, hP, hD0⟩ := hv
  have hx := B.exec
  have hb := B.bytes
  have hr := B.returns
  have hts := atoms_spec (ws := wsX3_asksRow) B.pre
  have hown : s.vm.findClass RX3 = some m.cls := findClass_of_methodNamed B.named
  have hlocks := B.notSynchronized
  have hK := hE.1.1
  have hinX3 : ∀ w ∈ u_ws RX3 TX3 14, w ∈ wsX3_asksRow := by decide +kernel
  subst hsz
  have hD := hD0.self (sz := s.heap.size)
  have hAlo : ∀ q, va_A (mW cI m0 a th σ) s.heap.size q → lo ≤ q := eA_lo hD0 hlo
  generalize hAe : va_A (mW cI m0 a th σ) s.heap.size = A at hD hAlo ⊢
  have hA : ∀ q : Nat, s.heap.size ≤ q → A q := fun q h => by rw [← hAe]; exact Or.inr h
  have hS : va_S A s.heap s.heap [] := va_S.rf
  have hP : va_P dD vwCl (mW cI m0 a th σ) s.heap := hP
  obtain ⟨i_now, i_n, i_tk, i_k, i_lt, i_row, i_cp, i_srv⟩ := id hI
  have hl := lv_entry ([.ref m0, .int x]) (n := 2) (Nat.le_of_ble_eq_true rfl)
  rw [lg_entry_eq]
  generalize (lg_sl ([.ref m0, .int x]) ++ List.replicate (2 - (lg_sl ([.ref m0, .int x])).length) Slot.unset).toArray = ls at hl ⊢
  have hl : lv_has ls 2 [(0, .ref m0), (1, .int x)] := hl
  refine lv_aload_n hx hb dX3_asksRow_0 rfl (lv_at hl 0 rfl) ?_
  refine lv_iload_n hx hb dX3_asksRow_1 rfl (lv_at hl 1 rfl) ?_
  refine lv_iconst (v := nI 0) hx hb dX3_asksRow_2 (by decide +kernel) ?_
  refine lv_aload_n hx hb dX3_asksRow_3 rfl (lv_at hl 0 rfl) ?_
  refine va_get (D := dD) (ci := 3) (v := .int (nI (s_n σ))) (C := RX3) (T := TX3) (N := 14) hx hb hts hinX3 hown hK hP 0 rfl rfl 3 (by decide) (hts (.fieldLink RX3 53 "FeatureStoreModel" "rows" "I") (by decide +kernel)) (fun _ h9 => h9) rfl dX3_asksRow_4 ?_
  refine lv_iconst (v := nI 1) hx hb dX3_asksRow_7 (by decide +kernel) ?_
  refine lv_isub hx hb dX3_asksRow_8 ?_
  refine vp_callSi (va_Run.run (va_runS (As := [.int x, .int (nI 0), .int ((nI (s_n σ)) - (nI 1))]) (rest := [.ref m0]) ⟨hx, hb, hml, hown, hts⟩ (c_X3_in l dD cI cR cS lo x (nI 0) ((nI (s_n σ)) - (nI 1))) (va_cwS 3 hts gX3_asksRow_X3_in rfl rfl rfl (by decide +kernel) ⟨Nat.le_of_ble_eq_true rfl, Nat.le_of_ble_eq_true rfl⟩) (ePreS hE (hS.mono hAlo) trivial) rfl rfl hl.1 rfl (lv_room (Nat.le_of_ble_eq_true rfl)) dX3_asksRow_9 ⟨Nat.le_of_ble_eq_true rfl, Nat.le_of_ble_eq_true rfl⟩)) (fun r_9 hr_9 => ?_)
  rcases hr_9 with ⟨rfl, hr_9⟩ | ⟨rfl, hr_9⟩
  · rw [ri_in (by omega)] at hr_9
    refine nv_if_eq (tgt := 19) hx hb dX3_asksRow_12 (by decide) (by decide) (fun c_12 => absurd c_12 (by decide)) (fun c_12 => ?_)
    refine lv_iconst (v := nI 0) hx hb dX3_asksRow_15 (by decide +kernel) ?_
    refine lv_goto (tgt := 20) hx hb dX3_asksRow_16 (by decide) ?_
    refine va_put (D := dD) (ci := 3) (v := .int (nI 0)) (ty := .int) (C := RX3) (T := TX3) (N := 14) hx hb hts hinX3 tyX3 tyX3_ok nmX3 hown hK hP hD hS 0 rfl rfl 0 (by decide) (hts (.fieldLink RX3 37 "FeatureStoreModel" "thrown" "I") (by decide +kernel)) (fun _ h9 => h9) rfl (by decide +kernel) rfl rfl (Nat.le_of_ble_eq_true rfl) dX3_asksRow_20 (fun H locs hP hD hS => ?_)
    have hP : va_P dD vwCl [(m0, .inr (3, [.int (nI 0), .int (nI (s_now σ)), .ref (a 0), .int (nI (s_n σ)), .ref (a 1), .ref (a 2), .ref (a 3), .ref (a 4), .int (nI (s_tk σ)), .ref (a 5), .int (nI (s_k σ)), .ref (a 6), .ref (a 7), .ref (a 8)])), (a 0, .inl (cI, 6, .inl (fun j => nI (s_lt σ j)))), (a 1, .inl (cI, 200, .inl (fun j => nI (s_pr σ j)))), (a 2, .inl (cI, 200, .inl (fun j => nI (s_ev σ j)))), (a 3, .inl (cI, 200, .inl (fun j => nI (s_ar σ j)))), (a 4, .inl (cI, 200, .inl (fun j => nI (s_vl σ j)))), (a 5, .inl (cI, 60, .inl (fun j => nI (s_cp σ j)))), (a 6, .inl (cI, 200, .inl (fun j => nI (s_sp σ j)))), (a 7, .inl (cI, 200, .inl (fun j => nI (s_sa σ j)))), (a 8, .inl (cI, 200, .inl (fun j => eN (s_sv σ j))))] H := hP
    have hD : va_D A [(m0, .inr (3, [.int (nI 0), .int (nI (s_now σ)), .ref (a 0), .int (nI (s_n σ)), .ref (a 1), .ref (a 2), .ref (a 3), .ref (a 4), .int (nI (s_tk σ)), .ref (a 5), .int (nI (s_k σ)), .ref (a 6), .ref (a 7), .ref (a 8)])), (a 0, .inl (cI, 6, .inl (fun j => nI (s_lt σ j)))), (a 1, .inl (cI, 200, .inl (fun j => nI (s_pr σ j)))), (a 2, .inl (cI, 200, .inl (fun j => nI (s_ev σ j)))), (a 3, .inl (cI, 200, .inl (fun j => nI (s_ar σ j)))), (a 4, .inl (cI, 200, .inl (fun j => nI (s_vl σ j)))), (a 5, .inl (cI, 60, .inl (fun j => nI (s_cp σ j)))), (a 6, .inl (cI, 200, .inl (fun j => nI (s_sp σ j)))), (a 7, .inl (cI, 200, .inl (fun j => nI (s_sa σ j)))), (a 8, .inl (cI, 200, .inl (fun j => eN (s_sv σ j))))] := hD
    refine lv_aload_n hx hb dX3_asksRow_23 rfl (lv_at hl 0 rfl) ?_
    refine va_get (D := dD) (ci := 3) (v := .int (nI 0)) (C := RX3) (T := TX3) (N := 14) hx hb hts hinX3 hown hK hP 0 rfl rfl 0 (by decide) (hts (.fieldLink RX3 37 "FeatureStoreModel" "thrown" "I") (by decide +kernel)) (fun _ h9 => h9) rfl dX3_asksRow_24 ?_
    refine nv_if_ne (tgt := 34) hx hb dX3_asksRow_27 (by decide) (by decide) (fun c_27 => absurd c_27 (by decide)) (fun c_27 => ?_)
    refine lv_iconst (v := nI 1) hx hb dX3_asksRow_30 (by decide +kernel) ?_
    refine lv_goto (tgt := 35) hx hb dX3_asksRow_31 (by decide) ?_
    exact W.zret (v := nI 1) hx hb hr rfl (fun u9 hu9 hW => ⟨⟨nI 1, (0, σ), rfl, Or.inl ⟨hr_9, rfl, rfl⟩, by have h9 := hP; rw [← hu9] at h9; exact h9⟩, hS.F hu9⟩) hS.2.2 dX3_asksRow_35
  · rw [ri_in (by omega)] at hr_9
    refine nv_if_eq (tgt := 19) hx hb dX3_asksRow_12 (by decide) (by decide) (fun c_12 => ?_) (fun c_12 => absurd c_12 (by decide))
    refine lv_iconst (v := nI 1) hx hb dX3_asksRow_19 (by decide +kernel) ?_
    refine va_put (D := dD) (ci := 3) (v := .int (nI 1)) (ty := .int) (C := RX3) (T := TX3) (N := 14) hx hb hts hinX3 tyX3 tyX3_ok nmX3 hown hK hP hD hS 0 rfl rfl 0 (by decide) (hts (.fieldLink RX3 37 "FeatureStoreModel" "thrown" "I") (by decide +kernel)) (fun _ h9 => h9) rfl (by decide +kernel) rfl rfl (Nat.le_of_ble_eq_true rfl) dX3_asksRow_20 (fun H locs hP hD hS => ?_)
    have hP : va_P dD vwCl [(m0, .inr (3, [.int (nI 1), .int (nI (s_now σ)), .ref (a 0), .int (nI (s_n σ)), .ref (a 1), .ref (a 2), .ref (a 3), .ref (a 4), .int (nI (s_tk σ)), .ref (a 5), .int (nI (s_k σ)), .ref (a 6), .ref (a 7), .ref (a 8)])), (a 0, .inl (cI, 6, .inl (fun j => nI (s_lt σ j)))), (a 1, .inl (cI, 200, .inl (fun j => nI (s_pr σ j)))), (a 2, .inl (cI, 200, .inl (fun j => nI (s_ev σ j)))), (a 3, .inl (cI, 200, .inl (fun j => nI (s_ar σ j)))), (a 4, .inl (cI, 200, .inl (fun j => nI (s_vl σ j)))), (a 5, .inl (cI, 60, .inl (fun j => nI (s_cp σ j)))), (a 6, .inl (cI, 200, .inl (fun j => nI (s_sp σ j)))), (a 7, .inl (cI, 200, .inl (fun j => nI (s_sa σ j)))), (a 8, .inl (cI, 200, .inl (fun j => eN (s_sv σ j))))] H := hP
    have hD : va_D A [(m0, .inr (3, [.int (nI 1), .int (nI (s_now σ)), .ref (a 0), .int (nI (s_n σ)), .ref (a 1), .ref (a 2), .ref (a 3), .ref (a 4), .int (nI (s_tk σ)), .ref (a 5), .int (nI (s_k σ)), .ref (a 6), .ref (a 7), .ref (a 8)])), (a 0, .inl (cI, 6, .inl (fun j => nI (s_lt σ j)))), (a 1, .inl (cI, 200, .inl (fun j => nI (s_pr σ j)))), (a 2, .inl (cI, 200, .inl (fun j => nI (s_ev σ j)))), (a 3, .inl (cI, 200, .inl (fun j => nI (s_ar σ j)))), (a 4, .inl (cI, 200, .inl (fun j => nI (s_vl σ j)))), (a 5, .inl (cI, 60, .inl (fun j => nI (s_cp σ j)))), (a 6, .inl (cI, 200, .inl (fun j => nI (s_sp σ j)))), (a 7, .inl (cI, 200, .inl (fun j => nI (s_sa σ j)))), (a 8, .inl (cI, 200, .inl (fun j => eN (s_sv σ j))))] := hD
    refine lv_aload_n hx hb dX3_asksRow_23 rfl (lv_at hl 0 rfl) ?_
    refine va_get (D := dD) (ci := 3) (v := .int (nI 1)) (C := RX3) (T := TX3) (N := 14) hx hb hts hinX3 hown hK hP 0 rfl rfl 0 (by decide) (hts (.fieldLink RX3 37 "FeatureStoreModel" "thrown" "I") (by decide +kernel)) (fun _ h9 => h9) rfl dX3_asksRow_24 ?_
    refine nv_if_ne (tgt := 34) hx hb dX3_asksRow_27 (by decide) (by decide) (fun c_27 => ?_) (fun c_27 => absurd c_27 (by decide))
    refine lv_iconst (v := nI 0) hx hb dX3_asksRow_34 (by decide +kernel) ?_
    exact W.zret (v := nI 0) hx hb hr rfl (fun u9 hu9 hW => ⟨⟨nI 0, (1, σ), rfl, Or.inr ⟨hr_9, rfl, rfl⟩, by have h9 := hP; rw [← hu9] at h9; exact h9⟩, hS.F hu9⟩) hS.2.2 dX3_asksRow_35

set_option maxHeartbeats 4000000 in
set_option maxRecDepth 100000 in
theorem c_X3_asksServing (l : Launch) (dD : va_G) (cI cR cS : ClassId) (lo : Nat) (sz : Nat) (hlo : lo ≤ sz) (m0 : Nat) (a : Nat → Nat) (th : Nat) (σ : St) (hI : sI σ) (x : Int32) : Met l yX3_asksServing wsX3_asksServing ({ frames := 1, cells := 0, slots := 0, locals := 22 }) (ePc dD cI cR cS lo [.ref m0, .int x] (fun H => H.size = sz ∧ va_P dD vwCl (mW cI m0 a th σ) H ∧ va_D (fun q => lo ≤ q) (mW cI m0 a th σ))) (va_Qi (fun (r : Int32) (u : Nat × St) => (ri x (s_k σ) ∧ u = (0, σ) ∧ r = nI 1) ∨ (¬ ri x (s_k σ) ∧ u = (1, σ) ∧ r = nI 0)) (fun u t => va_P dD vwCl (mW cI m0 a u.1 u.2) t.heap) (va_A (mW cI m0 a th σ) sz)) 0 0 (va_A (mW cI m0 a th σ) sz) := by
  refine Met.ofW (cc := cX3_asksServing) (maxL := 2) (ret := (some .boolean)) (by decide) rfl ?_
  intro p e_ s m args below meth c s₁ B hml hv
  obtain ⟨rfl, hE, hsz, hP, hD0⟩ := hv
  have hx := B.exec
  have hb := B.bytes
  have hr := B.returns
  have hts := atoms_spec (ws := wsX3_asksServing) B.pre
  have hown : s.vm.findClass RX3 = some m.cls := findClass_of_methodNamed B.named
  have hlocks := B.notSynchronized
  have hK := hE.1.1
  have hinX3 : ∀ w ∈ u_ws RX3 TX3 14, w ∈ wsX3_asksServing := by decide +kernel
  subst hsz
  have hD := hD0.self (sz := s.heap.size)
  have hAlo : ∀ q, va_A (mW cI m0 a th σ) s.heap.size q → lo ≤ q := eA_lo hD0 hlo
  generalize hAe : va_A (mW cI m0 a th σ) s.heap.size = A at hD hAlo ⊢
  have hA : ∀ q : Nat, s.heap.size ≤ q → A q := fun q h => by rw [← hAe]; exact Or.inr h
  have hS : va_S A s.heap s.heap [] := va_S.rf
  have hP : va_P dD vwCl (mW cI m0 a th σ) s.heap := hP
  obtain ⟨i_now, i_n, i_tk, i_k, i_lt, i_row, i_cp, i_srv⟩ := id hI
  have hl := lv_entry ([.ref m0, .int x]) (n := 2) (Nat.le_of_ble_eq_true rfl)
  rw [lg_entry_eq]
  generalize (lg_sl ([.ref m0, .int x]) ++ List.replicate (2 - (lg_sl ([.ref m0, .int x])).length) Slot.unset).toArray = ls at hl ⊢
  have hl : lv_has ls 2 [(0, .ref m0), (1, .int x)] := hl
  refine lv_aload_n hx hb dX3_asksServing_0 rfl (lv_at hl 0 rfl) ?_
  refine lv_iload_n hx hb dX3_asksServing_1 rfl (lv_at hl 1 rfl) ?_
  refine lv_iconst (v := nI 0) hx hb dX3_asksServing_2 (by decide +kernel) ?_
  refine lv_aload_n hx hb dX3_asksServing_3 rfl (lv_at hl 0 rfl) ?_
  refine va_get (D := dD) (ci := 3) (v := .int (nI (s_k σ))) (C := RX3) (T := TX3) (N := 14) hx hb hts hinX3 hown hK hP 0 rfl rfl 10 (by decide) (hts (.fieldLink RX3 83 "FeatureStoreModel" "servings" "I") (by decide +kernel)) (fun _ h9 => h9) rfl dX3_asksServing_4 ?_
  refine lv_iconst (v := nI 1) hx hb dX3_asksServing_7 (by decide +kernel) ?_
  refine lv_isub hx hb dX3_asksServing_8 ?_
  refine vp_callSi (va_Run.run (va_runS (As := [.int x, .int (nI 0), .int ((nI (s_k σ)) - (nI 1))]) (rest := [.ref m0]) ⟨hx, hb, hml, hown, hts⟩ (c_X3_in l dD cI cR cS lo x (nI 0) ((nI (s_k σ)) - (nI 1))) (va_cwS 3 hts gX3_asksServing_X3_in rfl rfl rfl (by decide +kernel) ⟨Nat.le_of_ble_eq_true rfl, Nat.le_of_ble_eq_true rfl⟩) (ePreS hE (hS.mono hAlo) trivial) rfl rfl hl.1 rfl (lv_room (Nat.le_of_ble_eq_true rfl)) dX3_asksServing_9 ⟨Nat.le_of_ble_eq_true rfl, Nat.le_of_ble_eq_true rfl⟩)) (fun r_9 hr_9 => ?_)
  rcases hr_9 with ⟨rfl, hr_9⟩ | ⟨rfl, hr_9⟩
  · rw [ri_in (by omega)] at hr_9
    refine nv_if_eq (tgt := 19) hx hb dX3_asksServing_12 (by decide) (by decide) (fun c_12 => absurd c_12 (by decide)) (fun c_12 => ?_)
    refine lv_iconst (v := nI 0) hx hb dX3_asksServing_15 (by decide +kernel) ?_
    refine lv_goto (tgt := 20) hx hb dX3_asksServing_16 (by decide) ?_
    refine va_put (D := dD) (ci := 3) (v := .int (nI 0)) (ty := .int) (C := RX3) (T := TX3) (N := 14) hx hb hts hinX3 tyX3 tyX3_ok nmX3 hown hK hP hD hS 0 rfl rfl 0 (by decide) (hts (.fieldLink RX3 37 "FeatureStoreModel" "thrown" "I") (by decide +kernel)) (fun _ h9 => h9) rfl (by decide +kernel) rfl rfl (Nat.le_of_ble_eq_true rfl) dX3_asksServing_20 (fun H locs hP hD hS => ?_)
    have hP : va_P dD vwCl [(m0, .inr (3, [.int (nI 0), .int (nI (s_now σ)), .ref (a 0), .int (nI (s_n σ)), .ref (a 1), .ref (a 2), .ref (a 3), .ref (a 4), .int (nI (s_tk σ)), .ref (a 5), .int (nI (s_k σ)), .ref (a 6), .ref (a 7), .ref (a 8)])), (a 0, .inl (cI, 6, .inl (fun j => nI (s_lt σ j)))), (a 1, .inl (cI, 200, .inl (fun j => nI (s_pr σ j)))), (a 2, .inl (cI, 200, .inl (fun j => nI (s_ev σ j)))), (a 3, .inl (cI, 200, .inl (fun j => nI (s_ar σ j)))), (a 4, .inl (cI, 200, .inl (fun j => nI (s_vl σ j)))), (a 5, .inl (cI, 60, .inl (fun j => nI (s_cp σ j)))), (a 6, .inl (cI, 200, .inl (fun j => nI (s_sp σ j)))), (a 7, .inl (cI, 200, .inl (fun j => nI (s_sa σ j)))), (a 8, .inl (cI, 200, .inl (fun j => eN (s_sv σ j))))] H := hP
    have hD : va_D A [(m0, .inr (3, [.int (nI 0), .int (nI (s_now σ)), .ref (a 0), .int (nI (s_n σ)), .ref (a 1), .ref (a 2), .ref (a 3), .ref (a 4), .int (nI (s_tk σ)), .ref (a 5), .int (nI (s_k σ)), .ref (a 6), .ref (a 7), .ref (a 8)])), (a 0, .inl (cI, 6, .inl (fun j => nI (s_lt σ j)))), (a 1, .inl (cI, 200, .inl (fun j => nI (s_pr σ j)))), (a 2, .inl (cI, 200, .inl (fun j => nI (s_ev σ j)))), (a 3, .inl (cI, 200, .inl (fun j => nI (s_ar σ j)))), (a 4, .inl (cI, 200, .inl (fun j => nI (s_vl σ j)))), (a 5, .inl (cI, 60, .inl (fun j => nI (s_cp σ j)))), (a 6, .inl (cI, 200, .inl (fun j => nI (s_sp σ j)))), (a 7, .inl (cI, 200, .inl (fun j => nI (s_sa σ j)))), (a 8, .inl (cI, 200, .inl (fun j => eN (s_sv σ j))))] := hD
    refine lv_aload_n hx hb dX3_asksServing_23 rfl (lv_at hl 0 rfl) ?_
    refine va_get (D := dD) (ci := 3) (v := .int (nI 0)) (C := RX3) (T := TX3) (N := 14) hx hb hts hinX3 hown hK hP 0 rfl rfl 0 (by decide) (hts (.fieldLink RX3 37 "FeatureStoreModel" "thrown" "I") (by decide +kernel)) (fun _ h9 => h9) rfl dX3_asksServing_24 ?_
    refine nv_if_ne (tgt := 34) hx hb dX3_asksServing_27 (by decide) (by decide) (fun c_27 => absurd c_27 (by decide)) (fun c_27 => ?_)
    refine lv_iconst (v := nI 1) hx hb dX3_asksServing_30 (by decide +kernel) ?_
    refine lv_goto (tgt := 35) hx hb dX3_asksServing_31 (by decide) ?_
    exact W.zret (v := nI 1) hx hb hr rfl (fun u9 hu9 hW => ⟨⟨nI 1, (0, σ), rfl, Or.inl ⟨hr_9, rfl, rfl⟩, by have h9 := hP; rw [← hu9] at h9; exact h9⟩, hS.F hu9⟩) hS.2.2 dX3_asksServing_35
  · rw [ri_in (by omega)] at hr_9
    refine nv_if_eq (tgt := 19) hx hb dX3_asksServing_12 (by decide) (by decide) (fun c_12 => ?_) (fun c_12 => absurd c_12 (by decide))
    refine lv_iconst (v := nI 1) hx hb dX3_asksServing_19 (by decide +kernel) ?_
    refine va_put (D := dD) (ci := 3) (v := .int (nI 1)) (ty := .int) (C := RX3) (T := TX3) (N := 14) hx hb hts hinX3 tyX3 tyX3_ok nmX3 hown hK hP hD hS 0 rfl rfl 0 (by decide) (hts (.fieldLink RX3 37 "FeatureStoreModel" "thrown" "I") (by decide +kernel)) (fun _ h9 => h9) rfl (by decide +kernel) rfl rfl (Nat.le_of_ble_eq_true rfl) dX3_asksServing_20 (fun H locs hP hD hS => ?_)
    have hP : va_P dD vwCl [(m0, .inr (3, [.int (nI 1), .int (nI (s_now σ)), .ref (a 0), .int (nI (s_n σ)), .ref (a 1), .ref (a 2), .ref (a 3), .ref (a 4), .int (nI (s_tk σ)), .ref (a 5), .int (nI (s_k σ)), .ref (a 6), .ref (a 7), .ref (a 8)])), (a 0, .inl (cI, 6, .inl (fun j => nI (s_lt σ j)))), (a 1, .inl (cI, 200, .inl (fun j => nI (s_pr σ j)))), (a 2, .inl (cI, 200, .inl (fun j => nI (s_ev σ j)))), (a 3, .inl (cI, 200, .inl (fun j => nI (s_ar σ j)))), (a 4, .inl (cI, 200, .inl (fun j => nI (s_vl σ j)))), (a 5, .inl (cI, 60, .inl (fun j => nI (s_cp σ j)))), (a 6, .inl (cI, 200, .inl (fun j => nI (s_sp σ j)))), (a 7, .inl (cI, 200, .inl (fun j => nI (s_sa σ j)))), (a 8, .inl (cI, 200, .inl (fun j => eN (s_sv σ j))))] H := hP
    have hD : va_D A [(m0, .inr (3, [.int (nI 1), .int (nI (s_now σ)), .ref (a 0), .int (nI (s_n σ)), .ref (a 1), .ref (a 2), .ref (a 3), .ref (a 4), .int (nI (s_tk σ)), .ref (a 5), .int (nI (s_k σ)), .ref (a 6), .ref (a 7), .ref (a 8)])), (a 0, .inl (cI, 6, .inl (fun j => nI (s_lt σ j)))), (a 1, .inl (cI, 200, .inl (fun j => nI (s_pr σ j)))), (a 2, .inl (cI, 200, .inl (fun j => nI (s_ev σ j)))), (a 3, .inl (cI, 200, .inl (fun j => nI (s_ar σ j)))), (a 4, .inl (cI, 200, .inl (fun j => nI (s_vl σ j)))), (a 5, .inl (cI, 60, .inl (fun j => nI (s_cp σ j)))), (a 6, .inl (cI, 200, .inl (fun j => nI (s_sp σ j)))), (a 7, .inl (cI, 200, .inl (fun j => nI (s_sa σ j)))), (a 8, .inl (cI, 200, .inl (fun j => eN (s_sv σ j))))] := hD
    refine lv_aload_n hx hb dX3_asksServing_23 rfl (lv_at hl 0 rfl) ?_
    refine va_get (D := dD) (ci := 3) (v := .int (nI 1)) (C := RX3) (T := TX3) (N := 14) hx hb hts hinX3 hown hK hP 0 rfl rfl 0 (by decide) (hts (.fieldLink RX3 37 "FeatureStoreModel" "thrown" "I") (by decide +kernel)) (fun _ h9 => h9) rfl dX3_asksServing_24 ?_
    refine nv_if_ne (tgt := 34) hx hb dX3_asksServing_27 (by decide) (by decide) (fun c_27 => ?_) (fun c_27 => absurd c_27 (by decide))
    refine lv_iconst (v := nI 0) hx hb dX3_asksServing_34 (by decide +kernel) ?_
    exact W.zret (v := nI 0) hx hb hr rfl (fun u9 hu9 hW => ⟨⟨nI 0, (1, σ), rfl, Or.inr ⟨hr_9, rfl, rfl⟩, by have h9 := hP; rw [← hu9] at h9; exact h9⟩, hS.F hu9⟩) hS.2.2 dX3_asksServing_35
