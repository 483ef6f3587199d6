/-! the class: pass, setLifetime, take (laid by wip/whole/gen/x2wr2.py) -/
set_option maxHeartbeats 4000000 in
set_option maxRecDepth 100000 in
theorem c_X2_pass (l : Launch) (dD : va_G) (cI cR cS : ClassId) (lo : Nat) (hfl : l.stackTraces = false) (sz : Nat) (hlo : lo ≤ sz) (x0 : Nat) (b ra sb hd ol : Nat → Nat) (σ : St) (hI : sI σ) (t : Int32) : vx_Met l yX2_pass wsX2_pass ({ frames := 7, cells := 2, slots := 12, locals := 104 }) (ePc dD cI cR cS lo [.ref x0, .int t] (fun H => H.size = sz ∧ va_P dD vwCl (xW cI cR cS x0 b ra sb hd ol σ) H ∧ va_D (fun q => lo ≤ q) (xW cI cR cS x0 b ra sb hd ol σ))) (va_Qi (fun (r : Int32) (u : St) => (rg t 1 10000 ∧ s_now σ + cl t ≤ 10000) ∧ u = g_pass σ (cl t) ∧ r = nI (s_now σ + cl t)) (fun u t => va_P dD vwCl (xW cI cR cS x0 b ra sb hd ol u) t.heap) (va_A (xW cI cR cS x0 b ra sb hd ol σ) sz)) (eX (fun E => (E = nIAE ∧ ¬ rg t 1 10000) ∨ (E = nISE ∧ rg t 1 10000 ∧ ¬ s_now σ + cl t ≤ 10000))) 2 12 (va_A (xW cI cR cS x0 b ra sb hd ol σ) sz) := by
  refine vx_ofW (cc := cX2_pass) (maxL := 2) (ret := (some .int)) (by decide) rfl ?_
  intro p e_ s m args below meth c s₁ B hml hnt hv
  obtain ⟨rfl, hE, hsz, hP, hD0⟩ := hv
  have hx := B.exec
  have hb := B.bytes
  have hr := B.returns
  have hts := atoms_spec (ws := wsX2_pass) B.pre
  have hown : s.vm.findClass RX2 = some m.cls := findClass_of_methodNamed B.named
  have hlocks := B.notSynchronized
  have hK := hE.1.1
  have hinX2 : ∀ w ∈ u_ws RX2 TX2 9, w ∈ wsX2_pass := by decide +kernel
  subst hsz
  have hD := hD0.self (sz := s.heap.size)
  have hAlo : ∀ q, va_A (xW cI cR cS x0 b ra sb hd ol σ) s.heap.size q → lo ≤ q := eA_lo hD0 hlo
  generalize hAe : va_A (xW cI cR cS x0 b ra sb hd ol σ) s.heap.size = A at hD hAlo ⊢
  have hA : ∀ q : Nat, s.heap.size ≤ q → A q := fun q h => by rw [← hAe]; exact Or.inr h
  have hS : va_S A s.heap s.heap [] := va_S.rf
  have hP : va_P dD vwCl (xW cI cR cS x0 b ra sb hd ol σ) s.heap := hP
  obtain ⟨i_now, i_n, i_tk, i_k, i_lt, i_row, i_cp, i_srv⟩ := id hI
  have hl := lv_entry ([.ref x0, .int t]) (n := 2) (Nat.le_of_ble_eq_true rfl)
  rw [lg_entry_eq]
  generalize (lg_sl ([.ref x0, .int t]) ++ List.replicate (2 - (lg_sl ([.ref x0, .int t])).length) Slot.unset).toArray = ls at hl ⊢
  have hl : lv_has ls 2 [(0, .ref x0), (1, .int t)] := hl
  refine lv_iload_n hx hb dX2_pass_0 rfl (lv_at hl 1 rfl) ?_
  refine lv_iconst (v := nI 1) hx hb dX2_pass_1 (by decide +kernel) ?_
  refine lv_sipush (v := nI 10000) hx hb dX2_pass_2 (by decide +kernel) ?_
  refine nx_callv (vx_runS (As := [.int t, .int (nI 1), .int (nI 10000)]) (rest := []) ⟨hx, hb, hml, hown, hts⟩ (c_X2_requireRange l dD cI cR cS lo hfl t (nI 1) (nI 10000)) (va_cwS 3 hts gX2_pass_X2_requireRange rfl rfl rfl (by decide +kernel) ⟨Nat.le_of_ble_eq_true rfl, Nat.le_of_ble_eq_true rfl⟩) (ePreS hE va_S.rf trivial) rfl rfl hl.1 rfl (lv_room (Nat.le_of_ble_eq_true rfl)) dX2_pass_5 ⟨Nat.le_of_ble_eq_true rfl, Nat.le_of_ble_eq_true rfl⟩) (fun E ce q9 H1 hX9 hz9 hk9 hc9 hv9 hf9 => vx_out (fun x hx => (hnt x hx).elim) hlocks hc9 hv9 hf9 (fun t9 ht9 _ => ⟨Or.inl hX9, by rw [ht9]; exact hz9, fun q hq _ => by rw [ht9]; exact hk9 q hq⟩) (fun z hz => absurd hz List.not_mem_nil) (by decide) (by decide)) (fun hr_5 => ?_)
  obtain ⟨tn, htn1, htn2, rfl⟩ := rg_of (by decide) (by decide) (hr_5)
  refine lv_iload_n hx hb dX2_pass_8 rfl (lv_at hl 1 rfl) ?_
  refine lv_sipush (v := nI 10000) hx hb dX2_pass_9 (by decide +kernel) ?_
  refine lv_aload_n hx hb dX2_pass_12 rfl (lv_at hl 0 rfl) ?_
  refine va_get (D := dD) (ci := 2) (v := .int (nI (s_now σ))) (C := RX2) (T := TX2) (N := 9) hx hb hts hinX2 hown hK hP 0 rfl rfl 0 (by decide) (hts (.fieldLink RX2 35 "FeatureStore" "now" "I") (by decide +kernel)) (fun _ h9 => h9) rfl dX2_pass_13 ?_
  refine nv_isub hx hb dX2_pass_16 (by omega) ?_
  refine nv_le (tgt := 30) hx hb dX2_pass_17 (by decide) (by omega) (by omega) (fun c_17 => ?_) (fun c_17 => ?_)
  · refine lv_aload_n hx hb dX2_pass_30 rfl (lv_at hl 0 rfl) ?_
    refine lv_dup hx hb dX2_pass_31 rfl ?_
    refine va_get (D := dD) (ci := 2) (v := .int (nI (s_now σ))) (C := RX2) (T := TX2) (N := 9) hx hb hts hinX2 hown hK hP 0 rfl rfl 0 (by decide) (hts (.fieldLink RX2 35 "FeatureStore" "now" "I") (by decide +kernel)) (fun _ h9 => h9) rfl dX2_pass_32 ?_
    refine lv_iload_n hx hb dX2_pass_35 rfl (lv_at hl 1 rfl) ?_
    refine nv_iadd hx hb dX2_pass_36 ?_
    refine va_put (D := dD) (ci := 2) (v := .int (nI ((s_now σ) + tn))) (ty := .int) (C := RX2) (T := TX2) (N := 9) hx hb hts hinX2 tyX2 tyX2_ok nmX2 hown hK hP hD hS 0 rfl rfl 0 (by decide) (hts (.fieldLink RX2 35 "FeatureStore" "now" "I") (by decide +kernel)) (fun _ h9 => h9) rfl (by decide +kernel) rfl rfl (Nat.le_of_ble_eq_true rfl) dX2_pass_37 (fun H locs hP hD hS => ?_)
    have hP : va_P dD vwCl ((x0, .inr (2, [.int (nI ((s_now σ) + tn)), .ref (b 0), .ref (b 1), .int (nI (s_n σ)), .ref (b 2), .ref (b 3), .int (nI (s_tk σ)), .ref (b 4), .int (nI (s_k σ))])) :: (b 0, .inl (cI, 6, .inl (fun j => nI (s_lt σ j)))) :: (b 1, .inl (cR, 200, .inr (.inr (.inr (.inr (fun j => if j < s_n σ then some (ra j) else none)))))) :: (b 2, .inl (cR, 60, .inr (.inr (.inr (.inr (fun j => rfN ra (hd j))))))) :: (b 3, .inl (cR, 60, .inr (.inr (.inr (.inr (fun j => rfN ra (s_cp σ j))))))) :: (b 4, .inl (cS, 200, .inr (.inr (.inr (.inr (fun j => if j < s_k σ then some (sb j) else none)))))) :: (poolE ra sb ol σ (s_n σ) (s_k σ))) H := hP
    have hD : va_D A ((x0, .inr (2, [.int (nI ((s_now σ) + tn)), .ref (b 0), .ref (b 1), .int (nI (s_n σ)), .ref (b 2), .ref (b 3), .int (nI (s_tk σ)), .ref (b 4), .int (nI (s_k σ))])) :: (b 0, .inl (cI, 6, .inl (fun j => nI (s_lt σ j)))) :: (b 1, .inl (cR, 200, .inr (.inr (.inr (.inr (fun j => if j < s_n σ then some (ra j) else none)))))) :: (b 2, .inl (cR, 60, .inr (.inr (.inr (.inr (fun j => rfN ra (hd j))))))) :: (b 3, .inl (cR, 60, .inr (.inr (.inr (.inr (fun j => rfN ra (s_cp σ j))))))) :: (b 4, .inl (cS, 200, .inr (.inr (.inr (.inr (fun j => if j < s_k σ then some (sb j) else none)))))) :: (poolE ra sb ol σ (s_n σ) (s_k σ))) := hD
    refine lv_aload_n hx hb dX2_pass_40 rfl (lv_at hl 0 rfl) ?_
    refine va_get (D := dD) (ci := 2) (v := .int (nI ((s_now σ) + tn))) (C := RX2) (T := TX2) (N := 9) hx hb hts hinX2 hown hK hP 0 rfl rfl 0 (by decide) (hts (.fieldLink RX2 35 "FeatureStore" "now" "I") (by decide +kernel)) (fun _ h9 => h9) rfl dX2_pass_41 ?_
    exact vx_ret (W.widen (k := 2) (n := 12) (by decide) (by decide) (W.iret (v := nI ((s_now σ) + tn)) hx hb hr (fun u9 hu9 hW => ⟨⟨nI ((s_now σ) + tn), g_pass σ tn, rfl, ⟨⟨hr_5, by rw [cl_nI (by omega)]; omega⟩, by rw [cl_nI (by omega)], by rw [cl_nI (by omega)]⟩, by have h9 := hP; rw [← hu9] at h9; exact h9⟩, hS.F hu9⟩) hS.2.2 dX2_pass_44))
  · exact nx_throw hx hb hfl hown hml hnt hlocks hts (by decide +kernel) (by decide +kernel) bad_ise ot_ise hE hE.1.2.2.1 hl dX2_pass_20 dX2_pass_23 dX2_pass_24 dX2_pass_26 dX2_pass_29 (Nat.le_of_ble_eq_true rfl) (Nat.le_of_ble_eq_true rfl) (Nat.le_of_ble_eq_true rfl) (Nat.le_of_ble_eq_true rfl) (Or.inr ⟨rfl, hr_5, by rw [cl_nI (by omega)]; omega⟩) (by decide) (by decide)

set_option maxHeartbeats 4000000 in
set_option maxRecDepth 100000 in
theorem c_X2_setLifetime (l : Launch) (dD : va_G) (cI cR cS : ClassId) (lo : Nat) (hfl : l.stackTraces = false) (sz : Nat) (hlo : lo ≤ sz) (x0 : Nat) (b ra sb hd ol : Nat → Nat) (σ : St) (hI : sI σ) (f t : Int32) : vx_Met l yX2_setLifetime wsX2_setLifetime ({ frames := 7, cells := 2, slots := 12, locals := 104 }) (ePc dD cI cR cS lo [.ref x0, .int f, .int t] (fun H => H.size = sz ∧ va_P dD vwCl (xW cI cR cS x0 b ra sb hd ol σ) H ∧ va_D (fun q => lo ≤ q) (xW cI cR cS x0 b ra sb hd ol σ))) (va_Qi (fun (r : Int32) (u : St) => (rg f 0 5 ∧ rg t 0 10000) ∧ u = g_setL σ (cl f) (cl t) ∧ r = nI (s_lt σ (cl f))) (fun u t => va_P dD vwCl (xW cI cR cS x0 b ra sb hd ol u) t.heap) (va_A (xW cI cR cS x0 b ra sb hd ol σ) sz)) (eX (fun E => E = nIAE ∧ ¬ (rg f 0 5 ∧ rg t 0 10000))) 2 12 (va_A (xW cI cR cS x0 b ra sb hd ol σ) sz) := by
  refine vx_ofW (cc := cX2_setLifetime) (maxL := 4) (ret := (some .int)) (by decide) rfl ?_
  intro p e_ s m args below meth c s₁ B hml hnt hv
  obtain ⟨rfl, hE, hsz, hP, hD0⟩ := hv
  have hx := B.exec
  have hb := B.bytes
  have hr := B.returns
  have hts := atoms_spec (ws := wsX2_setLifetime) B.pre
  have hown : s.vm.findClass RX2 = some m.cls := findClass_of_methodNamed B.named
  have hlocks := B.notSynchronized
  have hK := hE.1.1
  have hinX2 : ∀ w ∈ u_ws RX2 TX2 9, w ∈ wsX2_setLifetime := by decide +kernel
  subst hsz
  have hD := hD0.self (sz := s.heap.size)
  have hAlo : ∀ q, va_A (xW cI cR cS x0 b ra sb hd ol σ) s.heap.size q → lo ≤ q := eA_lo hD0 hlo
  generalize hAe : va_A (xW cI cR cS x0 b ra sb hd ol σ) s.heap.size = A at hD hAlo ⊢
  have hA : ∀ q : Nat, s.heap.size ≤ q → A q := fun q h => by rw [← hAe]; exact Or.inr h
  have hS : va_S A s.heap s.heap [] := va_S.rf
  have hP : va_P dD vwCl (xW cI cR cS x0 b ra sb hd ol σ) s.heap := hP
  obtain ⟨i_now, i_n, i_tk, i_k, i_lt, i_row, i_cp, i_srv⟩ := id hI
  have hl := lv_entry ([.ref x0, .int f, .int t]) (n := 4) (Nat.le_of_ble_eq_true rfl)
  rw [lg_entry_eq]
  generalize (lg_sl ([.ref x0, .int f, .int t]) ++ List.replicate (4 - (lg_sl ([.ref x0, .int f, .int t])).length) Slot.unset).toArray = ls at hl ⊢
  have hl : lv_has ls 4 [(0, .ref x0), (1, .int f), (2, .int t)] := hl
  refine lv_iload_n hx hb dX2_setLifetime_0 rfl (lv_at hl 1 rfl) ?_
  refine lv_iconst (v := nI 0) hx hb dX2_setLifetime_1 (by decide +kernel) ?_
  refine lv_iconst (v := nI 5) hx hb dX2_setLifetime_2 (by decide +kernel) ?_
  refine nx_callv (vx_runS (As := [.int f, .int (nI 0), .int (nI 5)]) (rest := []) ⟨hx, hb, hml, hown, hts⟩ (c_X2_requireRange l dD cI cR cS lo hfl f (nI 0) (nI 5)) (va_cwS 3 hts gX2_setLifetime_X2_requireRange rfl rfl rfl (by decide +kernel) ⟨Nat.le_of_ble_eq_true rfl, Nat.le_of_ble_eq_true rfl⟩) (ePreS hE va_S.rf trivial) rfl rfl hl.1 rfl (lv_room (Nat.le_of_ble_eq_true rfl)) dX2_setLifetime_3 ⟨Nat.le_of_ble_eq_true rfl, Nat.le_of_ble_eq_true rfl⟩) (fun E ce q9 H1 hX9 hz9 hk9 hc9 hv9 hf9 => vx_out (fun x hx => (hnt x hx).elim) hlocks hc9 hv9 hf9 (fun t9 ht9 _ => ⟨⟨hX9.1, fun h => hX9.2 (h.1)⟩, by rw [ht9]; exact hz9, fun q hq _ => by rw [ht9]; exact hk9 q hq⟩) (fun z hz => absurd hz List.not_mem_nil) (by decide) (by decide)) (fun hr_3 => ?_)
  refine lv_iload_n hx hb dX2_setLifetime_6 rfl (lv_at hl 2 rfl) ?_
  refine lv_iconst (v := nI 0) hx hb dX2_setLifetime_7 (by decide +kernel) ?_
  refine lv_sipush (v := nI 10000) hx hb dX2_setLifetime_8 (by decide +kernel) ?_
  refine nx_callv (vx_runS (As := [.int t, .int (nI 0), .int (nI 10000)]) (rest := []) ⟨hx, hb, hml, hown, hts⟩ (c_X2_requireRange l dD cI cR cS lo hfl t (nI 0) (nI 10000)) (va_cwS 3 hts gX2_setLifetime_X2_requireRange rfl rfl rfl (by decide +kernel) ⟨Nat.le_of_ble_eq_true rfl, Nat.le_of_ble_eq_true rfl⟩) (ePreS hE va_S.rf trivial) rfl rfl hl.1 rfl (lv_room (Nat.le_of_ble_eq_true rfl)) dX2_setLifetime_11 ⟨Nat.le_of_ble_eq_true rfl, Nat.le_of_ble_eq_true rfl⟩) (fun E ce q9 H1 hX9 hz9 hk9 hc9 hv9 hf9 => vx_out (fun x hx => (hnt x hx).elim) hlocks hc9 hv9 hf9 (fun t9 ht9 _ => ⟨⟨hX9.1, fun h => hX9.2 (h.2)⟩, by rw [ht9]; exact hz9, fun q hq _ => by rw [ht9]; exact hk9 q hq⟩) (fun z hz => absurd hz List.not_mem_nil) (by decide) (by decide)) (fun hr_11 => ?_)
  obtain ⟨fn, hfn1, hfn2, rfl⟩ := rg_of (by decide) (by decide) (hr_3)
  obtain ⟨tn, htn1, htn2, rfl⟩ := rg_of (by decide) (by decide) (hr_11)
  refine lv_aload_n hx hb dX2_setLifetime_14 rfl (lv_at hl 0 rfl) ?_
  refine va_get (D := dD) (ci := 2) (v := .ref (b 0)) (C := RX2) (T := TX2) (N := 9) hx hb hts hinX2 hown hK hP 0 rfl rfl 1 (by decide) (hts (.fieldLink RX2 9 "FeatureStore" "lifetimes" "[I") (by decide +kernel)) (fun _ h9 => h9) rfl dX2_setLifetime_15 ?_
  refine lv_iload_n hx hb dX2_setLifetime_18 rfl (lv_at hl 1 rfl) ?_
  refine nv_iald (q0 := 1) (t0 := 0) (s_lt σ) hx hb hK hP rfl rfl (by omega) (by decide) dX2_setLifetime_19 ?_
  refine lv_istore_n (lv' := [(3, .int (nI (s_lt σ fn))), (0, .ref x0), (1, .int (nI fn)), (2, .int (nI tn))]) hx hb dX2_setLifetime_20 rfl hl (by decide) rfl (fun ls hl => ?_)
  refine lv_aload_n hx hb dX2_setLifetime_21 rfl (lv_at hl 1 rfl) ?_
  refine va_get (D := dD) (ci := 2) (v := .ref (b 0)) (C := RX2) (T := TX2) (N := 9) hx hb hts hinX2 hown hK hP 0 rfl rfl 1 (by decide) (hts (.fieldLink RX2 9 "FeatureStore" "lifetimes" "[I") (by decide +kernel)) (fun _ h9 => h9) rfl dX2_setLifetime_22 ?_
  refine lv_iload_n hx hb dX2_setLifetime_25 rfl (lv_at hl 2 rfl) ?_
  refine lv_iload_n hx hb dX2_setLifetime_26 rfl (lv_at hl 3 rfl) ?_
  refine nv_iast (q0 := 1) (t0 := 0) (s_lt σ) hx hb hK hP hD hS rfl rfl (by omega) (by decide) dX2_setLifetime_27 (fun H locs hP hD hS => ?_)
  have hP : va_P dD vwCl ((x0, .inr (2, [.int (nI (s_now σ)), .ref (b 0), .ref (b 1), .int (nI (s_n σ)), .ref (b 2), .ref (b 3), .int (nI (s_tk σ)), .ref (b 4), .int (nI (s_k σ))])) :: (b 0, .inl (cI, 6, .inl (fun j => nI ((uN (s_lt σ) fn tn) j)))) :: (b 1, .inl (cR, 200, .inr (.inr (.inr (.inr (fun j => if j < s_n σ then some (ra j) else none)))))) :: (b 2, .inl (cR, 60, .inr (.inr (.inr (.inr (fun j => rfN ra (hd j))))))) :: (b 3, .inl (cR, 60, .inr (.inr (.inr (.inr (fun j => rfN ra (s_cp σ j))))))) :: (b 4, .inl (cS, 200, .inr (.inr (.inr (.inr (fun j => if j < s_k σ then some (sb j) else none)))))) :: (poolE ra sb ol σ (s_n σ) (s_k σ))) H := hP
  have hD : va_D A ((x0, .inr (2, [.int (nI (s_now σ)), .ref (b 0), .ref (b 1), .int (nI (s_n σ)), .ref (b 2), .ref (b 3), .int (nI (s_tk σ)), .ref (b 4), .int (nI (s_k σ))])) :: (b 0, .inl (cI, 6, .inl (fun j => nI ((uN (s_lt σ) fn tn) j)))) :: (b 1, .inl (cR, 200, .inr (.inr (.inr (.inr (fun j => if j < s_n σ then some (ra j) else none)))))) :: (b 2, .inl (cR, 60, .inr (.inr (.inr (.inr (fun j => rfN ra (hd j))))))) :: (b 3, .inl (cR, 60, .inr (.inr (.inr (.inr (fun j => rfN ra (s_cp σ j))))))) :: (b 4, .inl (cS, 200, .inr (.inr (.inr (.inr (fun j => if j < s_k σ then some (sb j) else none)))))) :: (poolE ra sb ol σ (s_n σ) (s_k σ))) := hD
  refine lv_iload_n hx hb dX2_setLifetime_28 rfl (lv_at hl 0 rfl) ?_
  exact vx_ret (W.widen (k := 2) (n := 12) (by decide) (by decide) (W.iret (v := nI (s_lt σ fn)) hx hb hr (fun u9 hu9 hW => ⟨⟨nI (s_lt σ fn), g_setL σ fn tn, rfl, ⟨⟨hr_3, hr_11⟩, by rw [cl_nI (by omega), cl_nI (by omega)], by rw [cl_nI (by omega)]⟩, by have h9 := hP; rw [← hu9] at h9; exact h9⟩, hS.F hu9⟩) hS.2.2 dX2_setLifetime_29))

theorem q_in_0 (σ : St) (c k : Nat) (h : ¬ k = 9) : q_in σ c k = σ k := by
  unfold q_in
  split
  · show (if k = 9 then _ else _) = _
    rw [if_neg h]
  · rfl
theorem q_in_tk (σ : St) (c : Nat) : s_tk (q_in σ c) = s_tk σ := congrFun (q_in_0 σ c 2 (by decide)) 0
theorem q_in_n (σ : St) (c : Nat) : s_n (q_in σ c) = s_n σ := congrFun (q_in_0 σ c 1 (by decide)) 0
theorem q_in_k (σ : St) (c : Nat) : s_k (q_in σ c) = s_k σ := congrFun (q_in_0 σ c 3 (by decide)) 0

set_option maxHeartbeats 4000000 in
set_option maxRecDepth 100000 in
theorem c_X2_take (l : Launch) (dD : va_G) (cI cR cS : ClassId) (lo : Nat) (hfl : l.stackTraces = false) (sz : Nat) (hlo : lo ≤ sz) (x0 : Nat) (b ra sb hd ol : Nat → Nat) (σ : St) (hI : sI σ) (x : Int32) : vx_Met l yX2_take wsX2_take ({ frames := 7, cells := 1, slots := 6, locals := 104 }) (ePc dD cI cR cS lo [.ref x0, .int x] (fun H => H.size = sz ∧ va_P dD vwCl (xW cI cR cS x0 b ra sb hd ol σ) H ∧ va_D (fun q => lo ≤ q) (xW cI cR cS x0 b ra sb hd ol σ))) (va_Qi (fun (r : Int32) (u : St) => (rg x 1 200) ∧ u = q_take σ (g_m σ (cl x)) ∧ r = nI (g_m σ (cl x))) (fun u t => va_P dD vwCl (xW cI cR cS x0 b ra sb hd ol u) t.heap) (va_A (xW cI cR cS x0 b ra sb hd ol σ) sz)) (eX (fun E => E = nIAE ∧ ¬ rg x 1 200)) 1 6 (va_A (xW cI cR cS x0 b ra sb hd ol σ) sz) := by
  refine vx_ofW (cc := cX2_take) (maxL := 4) (ret := (some .int)) (by decide) rfl ?_
  intro p e_ s m args below meth c s₁ B hml hnt hv
  obtain ⟨rfl, hE, hsz, hP, hD0⟩ := hv
  have hx := B.exec
  have hb := B.bytes
  have hr := B.returns
  have hts := atoms_spec (ws := wsX2_take) B.pre
  have hown : s.vm.findClass RX2 = some m.cls := findClass_of_methodNamed B.named
  have hlocks := B.notSynchronized
  have hK := hE.1.1
  have hinX2 : ∀ w ∈ u_ws RX2 TX2 9, w ∈ wsX2_take := by decide +kernel
  subst hsz
  have hD := hD0.self (sz := s.heap.size)
  have hAlo : ∀ q, va_A (xW cI cR cS x0 b ra sb hd ol σ) s.heap.size q → lo ≤ q := eA_lo hD0 hlo
  generalize hAe : va_A (xW cI cR cS x0 b ra sb hd ol σ) s.heap.size = A at hD hAlo ⊢
  have hA : ∀ q : Nat, s.heap.size ≤ q → A q := fun q h => by rw [← hAe]; exact Or.inr h
  have hS : va_S A s.heap s.heap [] := va_S.rf
  have hP : va_P dD vwCl (xW cI cR cS x0 b ra sb hd ol σ) s.heap := hP
  obtain ⟨i_now, i_n, i_tk, i_k, i_lt, i_row, i_cp, i_srv⟩ := id hI
  have hl := lv_entry ([.ref x0, .int x]) (n := 4) (Nat.le_of_ble_eq_true rfl)
  rw [lg_entry_eq]
  generalize (lg_sl ([.ref x0, .int x]) ++ List.replicate (4 - (lg_sl ([.ref x0, .int x])).length) Slot.unset).toArray = ls at hl ⊢
  have hl : lv_has ls 4 [(0, .ref x0), (1, .int x)] := hl
  refine lv_iload_n hx hb dX2_take_0 rfl (lv_at hl 1 rfl) ?_
  refine lv_iconst (v := nI 1) hx hb dX2_take_1 (by decide +kernel) ?_
  refine lv_sipush (v := nI 200) hx hb dX2_take_2 (by decide +kernel) ?_
  refine nx_callv (vx_runS (As := [.int x, .int (nI 1), .int (nI 200)]) (rest := []) ⟨hx, hb, hml, hown, hts⟩ (c_X2_requireRange l dD cI cR cS lo hfl x (nI 1) (nI 200)) (va_cwS 3 hts gX2_take_X2_requireRange rfl rfl rfl (by decide +kernel) ⟨Nat.le_of_ble_eq_true rfl, Nat.le_of_ble_eq_true rfl⟩) (ePreS hE va_S.rf trivial) rfl rfl hl.1 rfl (lv_room (Nat.le_of_ble_eq_true rfl)) dX2_take_5 ⟨Nat.le_of_ble_eq_true rfl, Nat.le_of_ble_eq_true rfl⟩) (fun E ce q9 H1 hX9 hz9 hk9 hc9 hv9 hf9 => vx_out (fun x hx => (hnt x hx).elim) hlocks hc9 hv9 hf9 (fun t9 ht9 _ => ⟨hX9, by rw [ht9]; exact hz9, fun q hq _ => by rw [ht9]; exact hk9 q hq⟩) (fun z hz => absurd hz List.not_mem_nil) (by decide) (by decide)) (fun hr_5 => ?_)
  obtain ⟨cn, hcn1, hcn2, rfl⟩ := rg_of (by decide) (by decide) (hr_5)
  refine vx_ret (W.widen (k := 1) (n := 6) (by decide) (by decide) ?_)
  refine lv_iconst (v := nI 0) hx hb dX2_take_8 (by decide +kernel) ?_
  refine lv_istore_n (lv' := [(2, .int (nI 0)), (0, .ref x0), (1, .int (nI cn))]) hx hb dX2_take_9 rfl hl (by decide) rfl (fun ls hl => ?_)
  refine lv_aload_n hx hb dX2_take_10 rfl (lv_at hl 1 rfl) ?_
  refine lv_aload_n hx hb dX2_take_11 rfl (lv_at hl 1 rfl) ?_
  refine va_get (D := dD) (ci := 2) (v := .int (nI (s_tk σ))) (C := RX2) (T := TX2) (N := 9) hx hb hts hinX2 hown hK hP 0 rfl rfl 6 (by decide) (hts (.fieldLink RX2 102 "FeatureStore" "taken" "I") (by decide +kernel)) (fun _ h9 => h9) rfl dX2_take_12 ?_
  refine nx_callRr (va_Run.run (va_runV (As := [.int (nI (s_tk σ))]) (rest := []) ⟨hx, hb, hml, hown, hts⟩ (c_X2_rowOrNull l dD cI cR cS lo x0 b ra sb hd ol σ hI (nI (s_tk σ))) (cwV 1 hts gX2_take_X2_rowOrNull rfl rfl rfl (by decide +kernel) ⟨Nat.le_of_ble_eq_true rfl, Nat.le_of_ble_eq_true rfl⟩) (ePreV hE (hS.mono hAlo) hP (k := 0) rfl rfl hP) rfl rfl hl.1 rfl (lv_room (Nat.le_of_ble_eq_true rfl)) dX2_take_15 ⟨Nat.le_of_ble_eq_true rfl, Nat.le_of_ble_eq_true rfl⟩)) (fun r_15 hr_15 => ?_)
  rcases hr_15 with ⟨hri, rfl⟩ | ⟨hri, rfl⟩
  · rw [cl_nI (n := s_tk σ) (by omega)]
    have hri2 : s_tk σ < s_n σ := (nI_ltI (by omega) (by omega)).mp hri.2
    refine lv_astore_n (lv' := [(3, .ref (ra (s_tk σ))), (2, .int (nI 0)), (0, .ref x0), (1, .int (nI cn))]) hx hb dX2_take_18 rfl hl (by decide) rfl (fun ls hl => ?_)
    have hlp : ∀ (d c_ : Nat) (σ2 : St) (o : Nat), σ2 = q_take σ c_ → sI σ2 → s_tk σ2 = s_tk σ + c_ → s_n σ2 = s_n σ → c_ ≤ cn → s_n σ + 1 ≤ s_tk σ + c_ + d → ((s_tk σ2 < s_n σ2 ∧ o = s_tk σ2 + 1) ∨ (¬ s_tk σ2 < s_n σ2 ∧ o = 0)) → ∀ (H : Heap) (locs : List Loc), va_P dD vwCl (xW cI cR cS x0 b ra sb hd ol σ2) H → va_D A (xW cI cR cS x0 b ra sb hd ol σ2) → va_S A s.heap H locs → ∀ (ls : Array Slot), lv_has ls 4 [(0, .ref x0), (1, .int (nI cn)), (2, .int (nI c_)), (3, va_rf (rfN ra o))] → W p l e_ (headSpec wsX2_take ({ frames := 7, cells := 1, slots := 6, locals := 104 })).room s m (([.ref x0, .int (nI cn)] : List Value).toArray) below meth c H locs 1 6 (MQ below (va_Qi (fun (r : Int32) (u : St) => (rg (nI cn) 1 200) ∧ u = q_take σ (g_m σ (cl (nI cn))) ∧ r = nI (g_m σ (cl (nI cn)))) (fun u t => va_P dD vwCl (xW cI cR cS x0 b ra sb hd ol u) t.heap) A) (([.ref x0, .int (nI cn)] : List Value).toArray) s 1 6 A) (F0 m 19 ls []) := by
      intro d
      induction d with
      | zero =>
        intro c_ σ2 o hq_ hI2 ht_ hn_ hc_ hd_ ho_ H locs hP hD hS ls hl
        exact absurd hI2.2.2.1 (by omega)
      | succ d ih =>
        intro c_ σ2 o hq_ hI2 ht_ hn_ hc_ hd_ ho_ H locs hP hD hS ls hl
        obtain ⟨i_now, i_n, i_tk, i_k, i_lt, i_row, i_cp, i_srv⟩ := id hI2
        rcases ho_ with ⟨hz_t, rfl⟩ | ⟨hz_t, rfl⟩
        · have hl : lv_has ls 4 [(0, .ref x0), (1, .int (nI cn)), (2, .int (nI c_)), (3, .ref (ra (s_tk σ2)))] := hl
          refine lv_iload_n hx hb dX2_take_19 rfl (lv_at hl 2 rfl) ?_
          refine lv_iload_n hx hb dX2_take_20 rfl (lv_at hl 1 rfl) ?_
          refine nv_ge (tgt := 58) hx hb dX2_take_21 (by decide) (by omega) (by omega) (fun c_21 => ?_) (fun c_21 => ?_)
          · refine lv_iload_n hx hb dX2_take_58 rfl (lv_at hl 2 rfl) ?_
            exact W.iret (v := nI c_) hx hb hr (fun u9 hu9 hW => ⟨⟨nI c_, σ2, rfl, ⟨hr_5, by rw [cl_nI (by omega), show g_m σ cn = c_ from by unfold g_m; omega]; exact hq_, by rw [cl_nI (by omega), show g_m σ cn = c_ from by unfold g_m; omega]⟩, by have h9 := hP; rw [← hu9] at h9; exact h9⟩, hS.F hu9⟩) hS.2.2 dX2_take_59
          · refine lv_aload_n hx hb dX2_take_24 rfl (lv_at hl 3 rfl) ?_
            refine lv_ifnull hx hb dX2_take_25 ?_
            refine lv_aload_n hx hb dX2_take_28 rfl (lv_at hl 0 rfl) ?_
            refine lv_aload_n hx hb dX2_take_29 rfl (lv_at hl 3 rfl) ?_
            have hAH : ∀ q : Nat, H.size ≤ q → A q := fun q h => hA q (Nat.le_trans hS.1 h)
            have hFc := fr_free (w2 := []) (by rw [List.append_nil]; exact hD) hAH
            refine va_callv (va_runV (As := [.ref (ra (s_tk σ2))]) (rest := []) ⟨hx, hb, hml, hown, hts⟩ (c_X2_takeIn l dD cI cR cS lo H.size (Nat.le_trans hlo hS.1) x0 b ra sb hd ol σ2 hI2 (s_tk σ2) hz_t) (cwV 1 hts gX2_take_X2_takeIn rfl rfl rfl (by decide +kernel) ⟨Nat.le_of_ble_eq_true rfl, Nat.le_of_ble_eq_true rfl⟩) (ePreV hE (hS.mono hAlo) hP (k := 0) rfl rfl ⟨rfl, hP, vD_mono hD hAlo⟩) rfl rfl hl.1 rfl (lv_room (Nat.le_of_ble_eq_true rfl)) dX2_take_30 ⟨Nat.le_of_ble_eq_true rfl, Nat.le_of_ble_eq_true rfl⟩) hS (fun q _ h => hFc q h) hFc (fun σ3 t_ H1 locs ht_ hvm_ hs3 hB_ hz_ hk_ hS => ?_)
            have hP : va_P dD vwCl (xW cI cR cS x0 b ra sb hd ol σ3) H1 := by rw [← ht_]; exact hB_
            have hD : va_D A (xW cI cR cS x0 b ra sb hd ol σ3) := xD_to hD (by rw [hs3, q_in_n]) (by rw [hs3, q_in_k])
            refine lv_aload_n hx hb dX2_take_33 rfl (lv_at hl 0 rfl) ?_
            refine lv_dup hx hb dX2_take_34 rfl ?_
            refine va_get (D := dD) (ci := 2) (v := .int (nI (s_tk σ3))) (C := RX2) (T := TX2) (N := 9) hx hb hts hinX2 hown hK hP 0 rfl rfl 6 (by decide) (hts (.fieldLink RX2 102 "FeatureStore" "taken" "I") (by decide +kernel)) (fun _ h9 => h9) rfl dX2_take_35 ?_
            refine lv_iconst (v := nI 1) hx hb dX2_take_38 (by decide +kernel) ?_
            refine nv_iadd hx hb dX2_take_39 ?_
            refine va_put (D := dD) (ci := 2) (v := .int (nI ((s_tk σ3) + 1))) (ty := .int) (C := RX2) (T := TX2) (N := 9) hx hb hts hinX2 tyX2 tyX2_ok nmX2 hown hK hP hD hS 0 rfl rfl 6 (by decide) (hts (.fieldLink RX2 102 "FeatureStore" "taken" "I") (by decide +kernel)) (fun _ h9 => h9) rfl (by decide +kernel) rfl rfl (Nat.le_of_ble_eq_true rfl) dX2_take_40 (fun H locs hP hD hS => ?_)
            have hP : va_P dD vwCl ((x0, .inr (2, [.int (nI (s_now σ3)), .ref (b 0), .ref (b 1), .int (nI (s_n σ3)), .ref (b 2), .ref (b 3), .int (nI ((s_tk σ3) + 1)), .ref (b 4), .int (nI (s_k σ3))])) :: (b 0, .inl (cI, 6, .inl (fun j => nI (s_lt σ3 j)))) :: (b 1, .inl (cR, 200, .inr (.inr (.inr (.inr (fun j => if j < s_n σ3 then some (ra j) else none)))))) :: (b 2, .inl (cR, 60, .inr (.inr (.inr (.inr (fun j => rfN ra (hd j))))))) :: (b 3, .inl (cR, 60, .inr (.inr (.inr (.inr (fun j => rfN ra (s_cp σ3 j))))))) :: (b 4, .inl (cS, 200, .inr (.inr (.inr (.inr (fun j => if j < s_k σ3 then some (sb j) else none)))))) :: (poolE ra sb ol σ3 (s_n σ3) (s_k σ3))) H := hP
            have hD : va_D A ((x0, .inr (2, [.int (nI (s_now σ3)), .ref (b 0), .ref (b 1), .int (nI (s_n σ3)), .ref (b 2), .ref (b 3), .int (nI ((s_tk σ3) + 1)), .ref (b 4), .int (nI (s_k σ3))])) :: (b 0, .inl (cI, 6, .inl (fun j => nI (s_lt σ3 j)))) :: (b 1, .inl (cR, 200, .inr (.inr (.inr (.inr (fun j => if j < s_n σ3 then some (ra j) else none)))))) :: (b 2, .inl (cR, 60, .inr (.inr (.inr (.inr (fun j => rfN ra (hd j))))))) :: (b 3, .inl (cR, 60, .inr (.inr (.inr (.inr (fun j => rfN ra (s_cp σ3 j))))))) :: (b 4, .inl (cS, 200, .inr (.inr (.inr (.inr (fun j => if j < s_k σ3 then some (sb j) else none)))))) :: (poolE ra sb ol σ3 (s_n σ3) (s_k σ3))) := hD
            refine lv_iinc (v := nI (c_ + 1)) (lv' := [(2, .int (nI (c_ + 1))), (0, .ref x0), (1, .int (nI cn)), (3, .ref (ra (s_tk σ2)))]) hx hb dX2_take_43 hl (k := 2) rfl (nv_inc _ 1) (by decide) rfl (fun ls hl => ?_)
            have e1 : q_take1 σ2 = setS σ3 2 (fun _ => s_tk σ3 + 1) := by rw [show s_tk σ3 = s_tk σ2 from by rw [hs3, q_in_tk], hs3]; rfl
            obtain ⟨σ4, hs4⟩ : ∃ z, z = q_take1 σ2 := ⟨_, rfl⟩
            have hP : va_P dD vwCl (xW cI cR cS x0 b ra sb hd ol σ4) H := by rw [hs4, e1]; exact hP
            have hD : va_D A (xW cI cR cS x0 b ra sb hd ol σ4) := by rw [hs4, e1]; exact hD
            have hI4 : sI σ4 := by rw [hs4]; exact sI_take1 hI2 hz_t
            have hz_4 := hI4.2.1
            have hz_5 := hI4.2.2.1
            refine lv_aload_n hx hb dX2_take_46 rfl (lv_at hl 1 rfl) ?_
            refine lv_aload_n hx hb dX2_take_47 rfl (lv_at hl 1 rfl) ?_
            refine va_get (D := dD) (ci := 2) (v := .int (nI (s_tk σ4))) (C := RX2) (T := TX2) (N := 9) hx hb hts hinX2 hown hK hP 0 rfl rfl 6 (by decide) (hts (.fieldLink RX2 102 "FeatureStore" "taken" "I") (by decide +kernel)) (fun _ h9 => h9) rfl dX2_take_48 ?_
            refine nx_callRr (va_Run.run (va_runV (As := [.int (nI (s_tk σ4))]) (rest := []) ⟨hx, hb, hml, hown, hts⟩ (c_X2_rowOrNull l dD cI cR cS lo x0 b ra sb hd ol σ4 hI4 (nI (s_tk σ4))) (cwV 1 hts gX2_take_X2_rowOrNull rfl rfl rfl (by decide +kernel) ⟨Nat.le_of_ble_eq_true rfl, Nat.le_of_ble_eq_true rfl⟩) (ePreV hE (hS.mono hAlo) hP (k := 0) rfl rfl hP) rfl rfl hl.1 rfl (lv_room (Nat.le_of_ble_eq_true rfl)) dX2_take_51 ⟨Nat.le_of_ble_eq_true rfl, Nat.le_of_ble_eq_true rfl⟩)) (fun r_51 hr_51 => ?_)
            rcases hr_51 with ⟨hri, rfl⟩ | ⟨hri, rfl⟩
            · rw [cl_nI (n := s_tk σ4) (by omega)]
              have hri2 : s_tk σ4 < s_n σ4 := (nI_ltI (by omega) (by omega)).mp hri.2
              refine lv_astore_n (lv' := [(3, .ref (ra (s_tk σ4))), (2, .int (nI (c_ + 1))), (0, .ref x0), (1, .int (nI cn))]) hx hb dX2_take_54 rfl hl (by decide) rfl (fun ls hl => ?_)
              refine lv_goto (tgt := 19) hx hb dX2_take_55 (by decide) ?_
              exact ih (c_ + 1) σ4 (s_tk σ4 + 1) (by rw [hs4, hq_]; rfl) hI4 (by rw [hs4, tk1_2]; omega) (by rw [hs4, tk1_1]; omega) (by omega) (by omega) (Or.inl ⟨hri2, rfl⟩) H locs hP hD hS ls (lv_sub hl [2, 3, 1, 0] rfl)
            · have hri2 : ¬ s_tk σ4 < s_n σ4 := fun z => hri ⟨(nI_leI (by decide) (by omega)).mpr (Nat.zero_le _), (nI_ltI (by omega) (by omega)).mpr z⟩
              refine lv_astore_nN (lv' := [(3, .null), (2, .int (nI (c_ + 1))), (0, .ref x0), (1, .int (nI cn))]) hx hb dX2_take_54 rfl hl (by decide) rfl (fun ls hl => ?_)
              refine lv_goto (tgt := 19) hx hb dX2_take_55 (by decide) ?_
              exact ih (c_ + 1) σ4 0 (by rw [hs4, hq_]; rfl) hI4 (by rw [hs4, tk1_2]; omega) (by rw [hs4, tk1_1]; omega) (by omega) (by omega) (Or.inr ⟨hri2, rfl⟩) H locs hP hD hS ls (lv_sub hl [2, 3, 1, 0] rfl)
        · have hl : lv_has ls 4 [(0, .ref x0), (1, .int (nI cn)), (2, .int (nI c_)), (3, .null)] := hl
          refine lv_iload_n hx hb dX2_take_19 rfl (lv_at hl 2 rfl) ?_
          refine lv_iload_n hx hb dX2_take_20 rfl (lv_at hl 1 rfl) ?_
          refine nv_ge (tgt := 58) hx hb dX2_take_21 (by decide) (by omega) (by omega) (fun c_21 => ?_) (fun c_21 => ?_)
          · refine lv_iload_n hx hb dX2_take_58 rfl (lv_at hl 2 rfl) ?_
            exact W.iret (v := nI c_) hx hb hr (fun u9 hu9 hW => ⟨⟨nI c_, σ2, rfl, ⟨hr_5, by rw [cl_nI (by omega), show g_m σ cn = c_ from by unfold g_m; omega]; exact hq_, by rw [cl_nI (by omega), show g_m σ cn = c_ from by unfold g_m; omega]⟩, by have h9 := hP; rw [← hu9] at h9; exact h9⟩, hS.F hu9⟩) hS.2.2 dX2_take_59
          · refine lv_aload_nN hx hb dX2_take_24 rfl (lv_at hl 3 rfl) ?_
            refine lv_ifnullN (tgt := 58) hx hb dX2_take_25 (by decide) ?_
            refine lv_iload_n hx hb dX2_take_58 rfl (lv_at hl 2 rfl) ?_
            exact W.iret (v := nI c_) hx hb hr (fun u9 hu9 hW => ⟨⟨nI c_, σ2, rfl, ⟨hr_5, by rw [cl_nI (by omega), show g_m σ cn = c_ from by unfold g_m; omega]; exact hq_, by rw [cl_nI (by omega), show g_m σ cn = c_ from by unfold g_m; omega]⟩, by have h9 := hP; rw [← hu9] at h9; exact h9⟩, hS.F hu9⟩) hS.2.2 dX2_take_59
    exact hlp (s_n σ + 1) 0 σ (s_tk σ + 1) rfl hI rfl rfl (Nat.zero_le _) (by omega) (Or.inl ⟨hri2, rfl⟩) s.heap [] hP hD hS ls (lv_sub hl [2, 3, 1, 0] rfl)
  · have hri2 : ¬ s_tk σ < s_n σ := fun z => hri ⟨(nI_leI (by decide) (by omega)).mpr (Nat.zero_le _), (nI_ltI (by omega) (by omega)).mpr z⟩
    refine lv_astore_nN (lv' := [(3, .null), (2, .int (nI 0)), (0, .ref x0), (1, .int (nI cn))]) hx hb dX2_take_18 rfl hl (by decide) rfl (fun ls hl => ?_)
    have hlp : ∀ (d c_ : Nat) (σ2 : St) (o : Nat), σ2 = q_take σ c_ → sI σ2 → s_tk σ2 = s_tk σ + c_ → s_n σ2 = s_n σ → c_ ≤ cn → s_n σ + 1 ≤ s_tk σ + c_ + d → ((s_tk σ2 < s_n σ2 ∧ o = s_tk σ2 + 1) ∨ (¬ s_tk σ2 < s_n σ2 ∧ o = 0)) → ∀ (H : Heap) (locs : List Loc), va_P dD vwCl (xW cI cR cS x0 b ra sb hd ol σ2) H → va_D A (xW cI cR cS x0 b ra sb hd ol σ2) → va_S A s.heap H locs → ∀ (ls : Array Slot), lv_has ls 4 [(0, .ref x0), (1, .int (nI cn)), (2, .int (nI c_)), (3, va_rf (rfN ra o))] → W p l e_ (headSpec wsX2_take ({ frames := 7, cells := 1, slots := 6, locals := 104 })).room s m (([.ref x0, .int (nI cn)] : List Value).toArray) below meth c H locs 1 6 (MQ below (va_Qi (fun (r : Int32) (u : St) => (rg (nI cn) 1 200) ∧ u = q_take σ (g_m σ (cl (nI cn))) ∧ r = nI (g_m σ (cl (nI cn)))) (fun u t => va_P dD vwCl (xW cI cR cS x0 b ra sb hd ol u) t.heap) A) (([.ref x0, .int (nI cn)] : List Value).toArray) s 1 6 A) (F0 m 19 ls []) := by
      intro d
      induction d with
      | zero =>
        intro c_ σ2 o hq_ hI2 ht_ hn_ hc_ hd_ ho_ H locs hP hD hS ls hl
        exact absurd hI2.2.2.1 (by omega)
      | succ d ih =>
        intro c_ σ2 o hq_ hI2 ht_ hn_ hc_ hd_ ho_ H locs hP hD hS ls hl
        obtain ⟨i_now, i_n, i_tk, i_k, i_lt, i_row, i_cp, i_srv⟩ := id hI2
        rcases ho_ with ⟨hz_t, rfl⟩ | ⟨hz_t, rfl⟩
        · have hl : lv_has ls 4 [(0, .ref x0), (1, .int (nI cn)), (2, .int (nI c_)), (3, .ref (ra (s_tk σ2)))] := hl
          refine lv_iload_n hx hb dX2_take_19 rfl (lv_at hl 2 rfl) ?_
          refine lv_iload_n hx hb dX2_take_20 rfl (lv_at hl 1 rfl) ?_
          refine nv_ge (tgt := 58) hx hb dX2_take_21 (by decide) (by omega) (by omega) (fun c_21 => ?_) (fun c_21 => ?_)
          · refine lv_iload_n hx hb dX2_take_58 rfl (lv_at hl 2 rfl) ?_
            exact W.iret (v := nI c_) hx hb hr (fun u9 hu9 hW => ⟨⟨nI c_, σ2, rfl, ⟨hr_5, by rw [cl_nI (by omega), show g_m σ cn = c_ from by unfold g_m; omega]; exact hq_, by rw [cl_nI (by omega), show g_m σ cn = c_ from by unfold g_m; omega]⟩, by have h9 := hP; rw [← hu9] at h9; exact h9⟩, hS.F hu9⟩) hS.2.2 dX2_take_59
          · refine lv_aload_n hx hb dX2_take_24 rfl (lv_at hl 3 rfl) ?_
            refine lv_ifnull hx hb dX2_take_25 ?_
            refine lv_aload_n hx hb dX2_take_28 rfl (lv_at hl 0 rfl) ?_
            refine lv_aload_n hx hb dX2_take_29 rfl (lv_at hl 3 rfl) ?_
            have hAH : ∀ q : Nat, H.size ≤ q → A q := fun q h => hA q (Nat.le_trans hS.1 h)
            have hFc := fr_free (w2 := []) (by rw [List.append_nil]; exact hD) hAH
            refine va_callv (va_runV (As := [.ref (ra (s_tk σ2))]) (rest := []) ⟨hx, hb, hml, hown, hts⟩ (c_X2_takeIn l dD cI cR cS lo H.size (Nat.le_trans hlo hS.1) x0 b ra sb hd ol σ2 hI2 (s_tk σ2) hz_t) (cwV 1 hts gX2_take_X2_takeIn rfl rfl rfl (by decide +kernel) ⟨Nat.le_of_ble_eq_true rfl, Nat.le_of_ble_eq_true rfl⟩) (ePreV hE (hS.mono hAlo) hP (k := 0) rfl rfl ⟨rfl, hP, vD_mono hD hAlo⟩) rfl rfl hl.1 rfl (lv_room (Nat.le_of_ble_eq_true rfl)) dX2_take_30 ⟨Nat.le_of_ble_eq_true rfl, Nat.le_of_ble_eq_true rfl⟩) hS (fun q _ h => hFc q h) hFc (fun σ3 t_ H1 locs ht_ hvm_ hs3 hB_ hz_ hk_ hS => ?_)
            have hP : va_P dD vwCl (xW cI cR cS x0 b ra sb hd ol σ3) H1 := by rw [← ht_]; exact hB_
            have hD : va_D A (xW cI cR cS x0 b ra sb hd ol σ3) := xD_to hD (by rw [hs3, q_in_n]) (by rw [hs3, q_in_k])
            refine lv_aload_n hx hb dX2_take_33 rfl (lv_at hl 0 rfl) ?_
            refine lv_dup hx hb dX2_take_34 rfl ?_
            refine va_get (D := dD) (ci := 2) (v := .int (nI (s_tk σ3))) (C := RX2) (T := TX2) (N := 9) hx hb hts hinX2 hown hK hP 0 rfl rfl 6 (by decide) (hts (.fieldLink RX2 102 "FeatureStore" "taken" "I") (by decide +kernel)) (fun _ h9 => h9) rfl dX2_take_35 ?_
            refine lv_iconst (v := nI 1) hx hb dX2_take_38 (by decide +kernel) ?_
            refine nv_iadd hx hb dX2_take_39 ?_
            refine va_put (D := dD) (ci := 2) (v := .int (nI ((s_tk σ3) + 1))) (ty := .int) (C := RX2) (T := TX2) (N := 9) hx hb hts hinX2 tyX2 tyX2_ok nmX2 hown hK hP hD hS 0 rfl rfl 6 (by decide) (hts (.fieldLink RX2 102 "FeatureStore" "taken" "I") (by decide +kernel)) (fun _ h9 => h9) rfl (by decide +kernel) rfl rfl (Nat.le_of_ble_eq_true rfl) dX2_take_40 (fun H locs hP hD hS => ?_)
            have hP : va_P dD vwCl ((x0, .inr (2, [.int (nI (s_now σ3)), .ref (b 0), .ref (b 1), .int (nI (s_n σ3)), .ref (b 2), .ref (b 3), .int (nI ((s_tk σ3) + 1)), .ref (b 4), .int (nI (s_k σ3))])) :: (b 0, .inl (cI, 6, .inl (fun j => nI (s_lt σ3 j)))) :: (b 1, .inl (cR, 200, .inr (.inr (.inr (.inr (fun j => if j < s_n σ3 then some (ra j) else none)))))) :: (b 2, .inl (cR, 60, .inr (.inr (.inr (.inr (fun j => rfN ra (hd j))))))) :: (b 3, .inl (cR, 60, .inr (.inr (.inr (.inr (fun j => rfN ra (s_cp σ3 j))))))) :: (b 4, .inl (cS, 200, .inr (.inr (.inr (.inr (fun j => if j < s_k σ3 then some (sb j) else none)))))) :: (poolE ra sb ol σ3 (s_n σ3) (s_k σ3))) H := hP
            have hD : va_D A ((x0, .inr (2, [.int (nI (s_now σ3)), .ref (b 0), .ref (b 1), .int (nI (s_n σ3)), .ref (b 2), .ref (b 3), .int (nI ((s_tk σ3) + 1)), .ref (b 4), .int (nI (s_k σ3))])) :: (b 0, .inl (cI, 6, .inl (fun j => nI (s_lt σ3 j)))) :: (b 1, .inl (cR, 200, .inr (.inr (.inr (.inr (fun j => if j < s_n σ3 then some (ra j) else none)))))) :: (b 2, .inl (cR, 60, .inr (.inr (.inr (.inr (fun j => rfN ra (hd j))))))) :: (b 3, .inl (cR, 60, .inr (.inr (.inr (.inr (fun j => rfN ra (s_cp σ3 j))))))) :: (b 4, .inl (cS, 200, .inr (.inr (.inr (.inr (fun j => if j < s_k σ3 then some (sb j) else none)))))) :: (poolE ra sb ol σ3 (s_n σ3) (s_k σ3))) := hD
            refine lv_iinc (v := nI (c_ + 1)) (lv' := [(2, .int (nI (c_ + 1))), (0, .ref x0), (1, .int (nI cn)), (3, .ref (ra (s_tk σ2)))]) hx hb dX2_take_43 hl (k := 2) rfl (nv_inc _ 1) (by decide) rfl (fun ls hl => ?_)
            have e1 : q_take1 σ2 = setS σ3 2 (fun _ => s_tk σ3 + 1) := by rw [show s_tk σ3 = s_tk σ2 from by rw [hs3, q_in_tk], hs3]; rfl
            obtain ⟨σ4, hs4⟩ : ∃ z, z = q_take1 σ2 := ⟨_, rfl⟩
            have hP : va_P dD vwCl (xW cI cR cS x0 b ra sb hd ol σ4) H := by rw [hs4, e1]; exact hP
            have hD : va_D A (xW cI cR cS x0 b ra sb hd ol σ4) := by rw [hs4, e1]; exact hD
            have hI4 : sI σ4 := by rw [hs4]; exact sI_take1 hI2 hz_t
            have hz_4 := hI4.2.1
            have hz_5 := hI4.2.2.1
            refine lv_aload_n hx hb dX2_take_46 rfl (lv_at hl 1 rfl) ?_
            refine lv_aload_n hx hb dX2_take_47 rfl (lv_at hl 1 rfl) ?_
            refine va_get (D := dD) (ci := 2) (v := .int (nI (s_tk σ4))) (C := RX2) (T := TX2) (N := 9) hx hb hts hinX2 hown hK hP 0 rfl rfl 6 (by decide) (hts (.fieldLink RX2 102 "FeatureStore" "taken" "I") (by decide +kernel)) (fun _ h9 => h9) rfl dX2_take_48 ?_
            refine nx_callRr (va_Run.run (va_runV (As := [.int (nI (s_tk σ4))]) (rest := []) ⟨hx, hb, hml, hown, hts⟩ (c_X2_rowOrNull l dD cI cR cS lo x0 b ra sb hd ol σ4 hI4 (nI (s_tk σ4))) (cwV 1 hts gX2_take_X2_rowOrNull rfl rfl rfl (by decide +kernel) ⟨Nat.le_of_ble_eq_true rfl, Nat.le_of_ble_eq_true rfl⟩) (ePreV hE (hS.mono hAlo) hP (k := 0) rfl rfl hP) rfl rfl hl.1 rfl (lv_room (Nat.le_of_ble_eq_true rfl)) dX2_take_51 ⟨Nat.le_of_ble_eq_true rfl, Nat.le_of_ble_eq_true rfl⟩)) (fun r_51 hr_51 => ?_)
            rcases hr_51 with ⟨hri, rfl⟩ | ⟨hri, rfl⟩
            · rw [cl_nI (n := s_tk σ4) (by omega)]
              have hri2 : s_tk σ4 < s_n σ4 := (nI_ltI (by omega) (by omega)).mp hri.2
              refine lv_astore_n (lv' := [(3, .ref (ra (s_tk σ4))), (2, .int (nI (c_ + 1))), (0, .ref x0), (1, .int (nI cn))]) hx hb dX2_take_54 rfl hl (by decide) rfl (fun ls hl => ?_)
              refine lv_goto (tgt := 19) hx hb dX2_take_55 (by decide) ?_
              exact ih (c_ + 1) σ4 (s_tk σ4 + 1) (by rw [hs4, hq_]; rfl) hI4 (by rw [hs4, tk1_2]; omega) (by rw [hs4, tk1_1]; omega) (by omega) (by omega) (Or.inl ⟨hri2, rfl⟩) H locs hP hD hS ls (lv_sub hl [2, 3, 1, 0] rfl)
            · have hri2 : ¬ s_tk σ4 < s_n σ4 := fun z => hri ⟨(nI_leI (by decide) (by omega)).mpr (Nat.zero_le _), (nI_ltI (by omega) (by omega)).mpr z⟩
              refine lv_astore_nN (lv' := [(3, .null), (2, .int (nI (c_ + 1))), (0, .ref x0), (1, .int (nI cn))]) hx hb dX2_take_54 rfl hl (by decide) rfl (fun ls hl => ?_)
              refine lv_goto (tgt := 19) hx hb dX2_take_55 (by decide) ?_
              exact ih (c_ + 1) σ4 0 (by rw [hs4, hq_]; rfl) hI4 (by rw [hs4, tk1_2]; omega) (by rw [hs4, tk1_1]; omega) (by omega) (by omega) (Or.inr ⟨hri2, rfl⟩) H locs hP hD hS ls (lv_sub hl [2, 3, 1, 0] rfl)
        · have hl : lv_has ls 4 [(0, .ref x0), (1, .int (nI cn)), (2, .int (nI c_)), (3, .null)] := hl
          refine lv_iload_n hx hb dX2_take_19 rfl (lv_at hl 2 rfl) ?_
          refine lv_iload_n hx hb dX2_take_20 rfl (lv_at hl 1 rfl) ?_
          refine nv_ge (tgt := 58) hx hb dX2_take_21 (by decide) (by omega) (by omega) (fun c_21 => ?_) (fun c_21 => ?_)
          · refine lv_iload_n hx hb dX2_take_58 rfl (lv_at hl 2 rfl) ?_
            exact W.iret (v := nI c_) hx hb hr (fun u9 hu9 hW => ⟨⟨nI c_, σ2, rfl, ⟨hr_5, by rw [cl_nI (by omega), show g_m σ cn = c_ from by unfold g_m; omega]; exact hq_, by rw [cl_nI (by omega), show g_m σ cn = c_ from by unfold g_m; omega]⟩, by have h9 := hP; rw [← hu9] at h9; exact h9⟩, hS.F hu9⟩) hS.2.2 dX2_take_59
          · refine lv_aload_nN hx hb dX2_take_24 rfl (lv_at hl 3 rfl) ?_
            refine lv_ifnullN (tgt := 58) hx hb dX2_take_25 (by decide) ?_
            refine lv_iload_n hx hb dX2_take_58 rfl (lv_at hl 2 rfl) ?_
            exact W.iret (v := nI c_) hx hb hr (fun u9 hu9 hW => ⟨⟨nI c_, σ2, rfl, ⟨hr_5, by rw [cl_nI (by omega), show g_m σ cn = c_ from by unfold g_m; omega]; exact hq_, by rw [cl_nI (by omega), show g_m σ cn = c_ from by unfold g_m; omega]⟩, by have h9 := hP; rw [← hu9] at h9; exact h9⟩, hS.F hu9⟩) hS.2.2 dX2_take_59
    exact hlp (s_n σ + 1) 0 σ 0 rfl hI rfl rfl (Nat.zero_le _) (by omega) (Or.inr ⟨hri2, rfl⟩) s.heap [] hP hD hS ls (lv_sub hl [2, 3, 1, 0] rfl)
