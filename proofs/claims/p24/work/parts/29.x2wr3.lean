/-! the class: putInChain, arrive, serve (laid by wip/whole/gen/x2wr3.py) -/
set_option maxHeartbeats 4000000 in
set_option maxRecDepth 100000 in
theorem c_X2_putInChain (l : Launch) (dD : va_G) (cI cR cS : ClassId) (lo : Nat) (sz : Nat) (hlo : lo ≤ sz) (x0 : Nat) (b ra sb hd ol : Nat → Nat) (σ : St) (hI : sI σ) (c_ : Nat) (hc_ : c_ < s_n σ) (l0 : List Nat) (hl0 : seg ol (hd (s_pr σ c_)) l0) (hm0 : ∀ y ∈ l0, y < s_n σ ∧ y ≠ c_) : Met l yX2_putInChain wsX2_putInChain ({ frames := 1, cells := 0, slots := 0, locals := 21 }) (ePc dD cI cR cS lo [.ref x0, .ref (ra c_)] (fun H => H.size = sz ∧ va_P dD vwCl (xW cI cR cS x0 b ra sb hd ol σ) H ∧ va_D (fun q => lo ≤ q) (xW cI cR cS x0 b ra sb hd ol σ))) (va_Qv (fun (u : (Nat → Nat) × (Nat → Nat)) => putP (s_ev σ) hd ol (s_pr σ c_) c_ l0 u.1 u.2) (fun u t => va_P dD vwCl (xW cI cR cS x0 b ra sb u.1 u.2 σ) t.heap) (va_A (xW cI cR cS x0 b ra sb hd ol σ) sz)) 0 0 (va_A (xW cI cR cS x0 b ra sb hd ol σ) sz) := by
  refine Met.ofW (cc := cX2_putInChain) (maxL := 5) (ret := none) (by decide) rfl ?_
  intro p e_ s m args below meth c s₁ B hml hv
  obtain ⟨rfl, hE, hsz, hP, hD0⟩ := hv
  have hx := B.exec
  have hb := B.bytes
  have hr := B.returns
  have hts := atoms_spec (ws := wsX2_putInChain) B.pre
  have hown : s.vm.findClass RX2 = some m.cls := findClass_of_methodNamed B.named
  have hlocks := B.notSynchronized
  have hK := hE.1.1
  have hinX0 : ∀ w ∈ u_ws RX0 TX0 7, w ∈ wsX2_putInChain := by decide +kernel
  have hinX2 : ∀ w ∈ u_ws RX2 TX2 9, w ∈ wsX2_putInChain := by decide +kernel
  subst hsz
  have hD := hD0.self (sz := s.heap.size)
  have hAlo : ∀ q, va_A (xW cI cR cS x0 b ra sb hd ol σ) s.heap.size q → lo ≤ q := eA_lo hD0 hlo
  generalize hAe : va_A (xW cI cR cS x0 b ra sb hd ol σ) s.heap.size = A at hD hAlo ⊢
  have hA : ∀ q : Nat, s.heap.size ≤ q → A q := fun q h => by rw [← hAe]; exact Or.inr h
  have hS : va_S A s.heap s.heap [] := va_S.rf
  have hP : va_P dD vwCl (xW cI cR cS x0 b ra sb hd ol σ) s.heap := hP
  obtain ⟨i_now, i_n, i_tk, i_k, i_lt, i_row, i_cp, i_srv⟩ := id hI
  have hl := lv_entry ([.ref x0, .ref (ra c_)]) (n := 5) (Nat.le_of_ble_eq_true rfl)
  rw [lg_entry_eq]
  generalize (lg_sl ([.ref x0, .ref (ra c_)]) ++ List.replicate (5 - (lg_sl ([.ref x0, .ref (ra c_)])).length) Slot.unset).toArray = ls at hl ⊢
  have hl : lv_has ls 5 [(0, .ref x0), (1, .ref (ra c_))] := hl
  obtain ⟨hz_1, hz_2, hz_3, hz_4⟩ := i_row c_ hc_
  have hR := xRow hP hc_
  refine lv_aload_n hx hb dX2_putInChain_0 rfl (lv_at hl 1 rfl) ?_
  refine va_get (D := dD) (ci := 0) (v := .int (nI (s_pr σ c_ / 10))) (C := RX0) (T := TX0) (N := 7) hx hb hts hinX0 hown hK hR 0 rfl rfl 1 (by decide) (hts (.fieldLink RX2 154 "FeatureStore$Row" "feature" "I") (by decide +kernel)) (fun _ h9 => h9) rfl dX2_putInChain_1 ?_
  refine lv_aload_n hx hb dX2_putInChain_4 rfl (lv_at hl 1 rfl) ?_
  refine va_get (D := dD) (ci := 0) (v := .int (nI (s_pr σ c_ % 10))) (C := RX0) (T := TX0) (N := 7) hx hb hts hinX0 hown hK hR 0 rfl rfl 2 (by decide) (hts (.fieldLink RX2 155 "FeatureStore$Row" "entity" "I") (by decide +kernel)) (fun _ h9 => h9) rfl dX2_putInChain_5 ?_
  refine vp_callSi (va_Run.run (va_runS (As := [.int (nI (s_pr σ c_ / 10)), .int (nI (s_pr σ c_ % 10))]) (rest := []) ⟨hx, hb, hml, hown, hts⟩ (c_X2_placeOf l dD cI cR cS lo (s_pr σ c_ / 10) (s_pr σ c_ % 10)) (va_cwS 2 hts gX2_putInChain_X2_placeOf rfl rfl rfl (by decide +kernel) ⟨Nat.le_of_ble_eq_true rfl, Nat.le_of_ble_eq_true rfl⟩) (ePreS hE (hS.mono hAlo) trivial) rfl rfl hl.1 rfl (lv_room (Nat.le_of_ble_eq_true rfl)) dX2_putInChain_8 ⟨Nat.le_of_ble_eq_true rfl, Nat.le_of_ble_eq_true rfl⟩)) (fun r_8 hr_8 => ?_)
  subst hr_8
  rw [show 10 * (s_pr σ c_ / 10) + (s_pr σ c_ % 10) = s_pr σ c_ from by omega]
  refine lv_istore_n (lv' := [(2, .int (nI (s_pr σ c_))), (0, .ref x0), (1, .ref (ra c_))]) hx hb dX2_putInChain_11 rfl hl (by decide) rfl (fun ls hl => ?_)
  refine lv_null hx hb dX2_putInChain_12 ?_
  refine lv_astore_nN (lv' := [(3, .null), (2, .int (nI (s_pr σ c_))), (0, .ref x0), (1, .ref (ra c_))]) hx hb dX2_putInChain_13 rfl hl (by decide) rfl (fun ls hl => ?_)
  refine lv_aload_n hx hb dX2_putInChain_14 rfl (lv_at hl 2 rfl) ?_
  refine va_get (D := dD) (ci := 2) (v := .ref (b 2)) (C := RX2) (T := TX2) (N := 9) hx hb hts hinX2 hown hK hP 0 rfl rfl 4 (by decide) (hts (.fieldLink RX2 19 "FeatureStore" "latest" "[LFeatureStore$Row;") (by decide +kernel)) (fun _ h9 => h9) rfl dX2_putInChain_15 ?_
  refine lv_iload_n hx hb dX2_putInChain_18 rfl (lv_at hl 1 rfl) ?_
  refine nq_aald (q0 := 3) (t0 := 1) (fun j => rfN ra (hd j)) hx hb hK hP rfl rfl (by omega) (by decide) dX2_putInChain_19 ?_
  refine nq_astore (lv' := [(4, va_rf (rfN ra (hd (s_pr σ c_)))), (3, .null), (2, .int (nI (s_pr σ c_))), (0, .ref x0), (1, .ref (ra c_))]) hx hb dX2_putInChain_20 hl (by decide) rfl (fun ls hl => ?_)
  have hlp : ∀ (suf pre : List Nat) (pv o : Nat), l0 = pre ++ suf → (∀ y ∈ pre, s_ev σ c_ < s_ev σ y) → seg ol o suf → ((pre = [] ∧ pv = 0 ∧ o = hd (s_pr σ c_)) ∨ ∃ pre2 x, pre = pre2 ++ [x] ∧ pv = x + 1 ∧ o = ol x) → ∀ (ls : Array Slot), lv_has ls 5 [(0, .ref x0), (1, .ref (ra c_)), (2, .int (nI (s_pr σ c_))), (3, va_rf (rfN ra pv)), (4, va_rf (rfN ra o))] → W p l e_ (headSpec wsX2_putInChain ({ frames := 1, cells := 0, slots := 0, locals := 21 })).room s m (([.ref x0, .ref (ra c_)] : List Value).toArray) below meth c s.heap [] 0 0 (MQ below (va_Qv (fun (u : (Nat → Nat) × (Nat → Nat)) => putP (s_ev σ) hd ol (s_pr σ c_) c_ l0 u.1 u.2) (fun u t => va_P dD vwCl (xW cI cR cS x0 b ra sb u.1 u.2 σ) t.heap) A) (([.ref x0, .ref (ra c_)] : List Value).toArray) s 0 0 A) (F0 m 22 ls []) := by
    intro suf
    induction suf with
    | nil =>
      intro pre pv o hsp_ hgt_ hs_ hpv_ ls hl
      have ho_ : o = 0 := hs_
      subst ho_
      have hl : lv_has ls 5 [(0, .ref x0), (1, .ref (ra c_)), (2, .int (nI (s_pr σ c_))), (3, va_rf (rfN ra pv)), (4, .null)] := hl
      refine lv_aloadN hx hb dX2_putInChain_22 (lv_at hl 4 rfl) ?_
      refine lv_ifnullN (tgt := 52) hx hb dX2_putInChain_24 (by decide) ?_
      rcases hpv_ with ⟨hpre_, rfl, ho2_⟩ | ⟨pre2, x, hpre_, rfl, ho2_⟩
      · have hl : lv_has ls 5 [(0, .ref x0), (1, .ref (ra c_)), (2, .int (nI (s_pr σ c_))), (3, .null), (4, .null)] := hl
        refine lv_aload_n hx hb dX2_putInChain_52 rfl (lv_at hl 1 rfl) ?_
        refine lv_aloadN hx hb dX2_putInChain_53 (lv_at hl 4 rfl) ?_
        refine va_put (D := dD) (ci := 0) (v := va_rf (rfN ra 0)) (ty := .object "FeatureStore$Row") (C := RX0) (T := TX0) (N := 7) hx hb hts hinX0 tyX0 tyX0_ok nmX0 hown hK hP hD hS (c_ + 6) (pool_row hc_) rfl 6 (by decide) (hts (.fieldLink RX2 87 "FeatureStore$Row" "older" "LFeatureStore$Row;") (by decide +kernel)) (fun _ h9 => h9) rfl (by decide +kernel) nar_rf fit_rf (Nat.le_of_ble_eq_true rfl) dX2_putInChain_55 (fun H locs hP hD hS => ?_)
        have hP : va_P dD vwCl ((x0, .inr (2, [.int (nI (s_now σ)), .ref (b 0), .ref (b 1), .int (nI (s_n σ)), .ref (b 2), .ref (b 3), .int (nI (s_tk σ)), .ref (b 4), .int (nI (s_k σ))])) :: (b 0, .inl (cI, 6, .inl (fun j => nI (s_lt σ j)))) :: (b 1, .inl (cR, 200, .inr (.inr (.inr (.inr (fun j => if j < s_n σ then some (ra j) else none)))))) :: (b 2, .inl (cR, 60, .inr (.inr (.inr (.inr (fun j => rfN ra (hd j))))))) :: (b 3, .inl (cR, 60, .inr (.inr (.inr (.inr (fun j => rfN ra (s_cp σ j))))))) :: (b 4, .inl (cS, 200, .inr (.inr (.inr (.inr (fun j => if j < s_k σ then some (sb j) else none)))))) :: ((poolE ra sb ol σ (s_n σ) (s_k σ)).set c_ (ra c_, .inr (0, [.int (nI c_), .int (nI (s_pr σ c_ / 10)), .int (nI (s_pr σ c_ % 10)), .int (nI (s_ev σ c_)), .int (nI (s_ar σ c_)), .int (nI (s_vl σ c_)), va_rf (rfN ra 0)])))) H := hP
        have hD : va_D A ((x0, .inr (2, [.int (nI (s_now σ)), .ref (b 0), .ref (b 1), .int (nI (s_n σ)), .ref (b 2), .ref (b 3), .int (nI (s_tk σ)), .ref (b 4), .int (nI (s_k σ))])) :: (b 0, .inl (cI, 6, .inl (fun j => nI (s_lt σ j)))) :: (b 1, .inl (cR, 200, .inr (.inr (.inr (.inr (fun j => if j < s_n σ then some (ra j) else none)))))) :: (b 2, .inl (cR, 60, .inr (.inr (.inr (.inr (fun j => rfN ra (hd j))))))) :: (b 3, .inl (cR, 60, .inr (.inr (.inr (.inr (fun j => rfN ra (s_cp σ j))))))) :: (b 4, .inl (cS, 200, .inr (.inr (.inr (.inr (fun j => if j < s_k σ then some (sb j) else none)))))) :: ((poolE ra sb ol σ (s_n σ) (s_k σ)).set c_ (ra c_, .inr (0, [.int (nI c_), .int (nI (s_pr σ c_ / 10)), .int (nI (s_pr σ c_ % 10)), .int (nI (s_ev σ c_)), .int (nI (s_ar σ c_)), .int (nI (s_vl σ c_)), va_rf (rfN ra 0)])))) := hD
        rw [pool_set hc_] at hP hD
        refine lv_aload_nN hx hb dX2_putInChain_58 rfl (lv_at hl 3 rfl) ?_
        refine lv_ifnonnullN hx hb dX2_putInChain_59 ?_
        refine lv_aload_n hx hb dX2_putInChain_62 rfl (lv_at hl 0 rfl) ?_
        refine va_get (D := dD) (ci := 2) (v := .ref (b 2)) (C := RX2) (T := TX2) (N := 9) hx hb hts hinX2 hown hK hP 0 rfl rfl 4 (by decide) (hts (.fieldLink RX2 19 "FeatureStore" "latest" "[LFeatureStore$Row;") (by decide +kernel)) (fun _ h9 => h9) rfl dX2_putInChain_63 ?_
        refine lv_iload_n hx hb dX2_putInChain_66 rfl (lv_at hl 2 rfl) ?_
        refine lv_aload_n hx hb dX2_putInChain_67 rfl (lv_at hl 1 rfl) ?_
        refine nq_aast (q0 := 3) (t0 := 1) (qk := c_ + 6) (ci := 0) (r := (RX0, TX0, 7)) (fun j => rfN ra (hd j)) (fun j => rfN ra (uN (hd) (s_pr σ c_) (c_ + 1) j)) hx hb hK hP hD hS rfl rfl (pool_row hc_) rfl (by omega) (by decide) upQ dX2_putInChain_68 (fun H locs hP hD hS => ?_)
        have hP : va_P dD vwCl ((x0, .inr (2, [.int (nI (s_now σ)), .ref (b 0), .ref (b 1), .int (nI (s_n σ)), .ref (b 2), .ref (b 3), .int (nI (s_tk σ)), .ref (b 4), .int (nI (s_k σ))])) :: (b 0, .inl (cI, 6, .inl (fun j => nI (s_lt σ j)))) :: (b 1, .inl (cR, 200, .inr (.inr (.inr (.inr (fun j => if j < s_n σ then some (ra j) else none)))))) :: (b 2, .inl (cR, 60, .inr (.inr (.inr (.inr (fun j => rfN ra ((uN (hd) (s_pr σ c_) (c_ + 1)) j))))))) :: (b 3, .inl (cR, 60, .inr (.inr (.inr (.inr (fun j => rfN ra (s_cp σ j))))))) :: (b 4, .inl (cS, 200, .inr (.inr (.inr (.inr (fun j => if j < s_k σ then some (sb j) else none)))))) :: (poolE ra sb (uN ol c_ 0) σ (s_n σ) (s_k σ))) H := hP
        have hD : va_D A ((x0, .inr (2, [.int (nI (s_now σ)), .ref (b 0), .ref (b 1), .int (nI (s_n σ)), .ref (b 2), .ref (b 3), .int (nI (s_tk σ)), .ref (b 4), .int (nI (s_k σ))])) :: (b 0, .inl (cI, 6, .inl (fun j => nI (s_lt σ j)))) :: (b 1, .inl (cR, 200, .inr (.inr (.inr (.inr (fun j => if j < s_n σ then some (ra j) else none)))))) :: (b 2, .inl (cR, 60, .inr (.inr (.inr (.inr (fun j => rfN ra ((uN (hd) (s_pr σ c_) (c_ + 1)) j))))))) :: (b 3, .inl (cR, 60, .inr (.inr (.inr (.inr (fun j => rfN ra (s_cp σ j))))))) :: (b 4, .inl (cS, 200, .inr (.inr (.inr (.inr (fun j => if j < s_k σ then some (sb j) else none)))))) :: (poolE ra sb (uN ol c_ 0) σ (s_n σ) (s_k σ))) := hD
        refine lv_goto (tgt := 77) hx hb dX2_putInChain_69 (by decide) ?_
        exact W.vret hx hb hr (fun u9 hu9 hW => ⟨⟨(uN hd (s_pr σ c_) (c_ + 1), (uN ol c_ 0)), rfl, ⟨pre, [], hsp_, hgt_, Or.inl rfl, Or.inl ⟨hpre_, rfl, by rw [← ho2_]⟩⟩, by have h9 := hP; rw [← hu9] at h9; exact h9⟩, hS.F hu9⟩) hS.2.2 dX2_putInChain_77
      · have hl : lv_has ls 5 [(0, .ref x0), (1, .ref (ra c_)), (2, .int (nI (s_pr σ c_))), (3, .ref (ra x)), (4, .null)] := hl
        obtain ⟨hz_x, hz_xc⟩ := hm0 x (by rw [hsp_, hpre_]; exact List.mem_append_left _ (List.mem_append_right _ List.mem_cons_self))
        refine lv_aload_n hx hb dX2_putInChain_52 rfl (lv_at hl 1 rfl) ?_
        refine lv_aloadN hx hb dX2_putInChain_53 (lv_at hl 4 rfl) ?_
        refine va_put (D := dD) (ci := 0) (v := va_rf (rfN ra 0)) (ty := .object "FeatureStore$Row") (C := RX0) (T := TX0) (N := 7) hx hb hts hinX0 tyX0 tyX0_ok nmX0 hown hK hP hD hS (c_ + 6) (pool_row hc_) rfl 6 (by decide) (hts (.fieldLink RX2 87 "FeatureStore$Row" "older" "LFeatureStore$Row;") (by decide +kernel)) (fun _ h9 => h9) rfl (by decide +kernel) nar_rf fit_rf (Nat.le_of_ble_eq_true rfl) dX2_putInChain_55 (fun H locs hP hD hS => ?_)
        have hP : va_P dD vwCl ((x0, .inr (2, [.int (nI (s_now σ)), .ref (b 0), .ref (b 1), .int (nI (s_n σ)), .ref (b 2), .ref (b 3), .int (nI (s_tk σ)), .ref (b 4), .int (nI (s_k σ))])) :: (b 0, .inl (cI, 6, .inl (fun j => nI (s_lt σ j)))) :: (b 1, .inl (cR, 200, .inr (.inr (.inr (.inr (fun j => if j < s_n σ then some (ra j) else none)))))) :: (b 2, .inl (cR, 60, .inr (.inr (.inr (.inr (fun j => rfN ra (hd j))))))) :: (b 3, .inl (cR, 60, .inr (.inr (.inr (.inr (fun j => rfN ra (s_cp σ j))))))) :: (b 4, .inl (cS, 200, .inr (.inr (.inr (.inr (fun j => if j < s_k σ then some (sb j) else none)))))) :: ((poolE ra sb ol σ (s_n σ) (s_k σ)).set c_ (ra c_, .inr (0, [.int (nI c_), .int (nI (s_pr σ c_ / 10)), .int (nI (s_pr σ c_ % 10)), .int (nI (s_ev σ c_)), .int (nI (s_ar σ c_)), .int (nI (s_vl σ c_)), va_rf (rfN ra 0)])))) H := hP
        have hD : va_D A ((x0, .inr (2, [.int (nI (s_now σ)), .ref (b 0), .ref (b 1), .int (nI (s_n σ)), .ref (b 2), .ref (b 3), .int (nI (s_tk σ)), .ref (b 4), .int (nI (s_k σ))])) :: (b 0, .inl (cI, 6, .inl (fun j => nI (s_lt σ j)))) :: (b 1, .inl (cR, 200, .inr (.inr (.inr (.inr (fun j => if j < s_n σ then some (ra j) else none)))))) :: (b 2, .inl (cR, 60, .inr (.inr (.inr (.inr (fun j => rfN ra (hd j))))))) :: (b 3, .inl (cR, 60, .inr (.inr (.inr (.inr (fun j => rfN ra (s_cp σ j))))))) :: (b 4, .inl (cS, 200, .inr (.inr (.inr (.inr (fun j => if j < s_k σ then some (sb j) else none)))))) :: ((poolE ra sb ol σ (s_n σ) (s_k σ)).set c_ (ra c_, .inr (0, [.int (nI c_), .int (nI (s_pr σ c_ / 10)), .int (nI (s_pr σ c_ % 10)), .int (nI (s_ev σ c_)), .int (nI (s_ar σ c_)), .int (nI (s_vl σ c_)), va_rf (rfN ra 0)])))) := hD
        rw [pool_set hc_] at hP hD
        refine lv_aload_n hx hb dX2_putInChain_58 rfl (lv_at hl 3 rfl) ?_
        refine lv_ifnonnull (tgt := 72) hx hb dX2_putInChain_59 (by decide) ?_
        refine lv_aload_n hx hb dX2_putInChain_72 rfl (lv_at hl 3 rfl) ?_
        refine lv_aload_n hx hb dX2_putInChain_73 rfl (lv_at hl 1 rfl) ?_
        refine va_put (D := dD) (ci := 0) (v := va_rf (rfN ra ((c_ + 1)))) (ty := .object "FeatureStore$Row") (C := RX0) (T := TX0) (N := 7) hx hb hts hinX0 tyX0 tyX0_ok nmX0 hown hK hP hD hS (x + 6) (pool_row hz_x) rfl 6 (by decide) (hts (.fieldLink RX2 87 "FeatureStore$Row" "older" "LFeatureStore$Row;") (by decide +kernel)) (fun _ h9 => h9) rfl (by decide +kernel) nar_rf fit_rf (Nat.le_of_ble_eq_true rfl) dX2_putInChain_74 (fun H locs hP hD hS => ?_)
        have hP : va_P dD vwCl ((x0, .inr (2, [.int (nI (s_now σ)), .ref (b 0), .ref (b 1), .int (nI (s_n σ)), .ref (b 2), .ref (b 3), .int (nI (s_tk σ)), .ref (b 4), .int (nI (s_k σ))])) :: (b 0, .inl (cI, 6, .inl (fun j => nI (s_lt σ j)))) :: (b 1, .inl (cR, 200, .inr (.inr (.inr (.inr (fun j => if j < s_n σ then some (ra j) else none)))))) :: (b 2, .inl (cR, 60, .inr (.inr (.inr (.inr (fun j => rfN ra (hd j))))))) :: (b 3, .inl (cR, 60, .inr (.inr (.inr (.inr (fun j => rfN ra (s_cp σ j))))))) :: (b 4, .inl (cS, 200, .inr (.inr (.inr (.inr (fun j => if j < s_k σ then some (sb j) else none)))))) :: ((poolE ra sb ((uN ol c_ 0)) σ (s_n σ) (s_k σ)).set x (ra x, .inr (0, [.int (nI x), .int (nI (s_pr σ x / 10)), .int (nI (s_pr σ x % 10)), .int (nI (s_ev σ x)), .int (nI (s_ar σ x)), .int (nI (s_vl σ x)), va_rf (rfN ra ((c_ + 1)))])))) H := hP
        have hD : va_D A ((x0, .inr (2, [.int (nI (s_now σ)), .ref (b 0), .ref (b 1), .int (nI (s_n σ)), .ref (b 2), .ref (b 3), .int (nI (s_tk σ)), .ref (b 4), .int (nI (s_k σ))])) :: (b 0, .inl (cI, 6, .inl (fun j => nI (s_lt σ j)))) :: (b 1, .inl (cR, 200, .inr (.inr (.inr (.inr (fun j => if j < s_n σ then some (ra j) else none)))))) :: (b 2, .inl (cR, 60, .inr (.inr (.inr (.inr (fun j => rfN ra (hd j))))))) :: (b 3, .inl (cR, 60, .inr (.inr (.inr (.inr (fun j => rfN ra (s_cp σ j))))))) :: (b 4, .inl (cS, 200, .inr (.inr (.inr (.inr (fun j => if j < s_k σ then some (sb j) else none)))))) :: ((poolE ra sb ((uN ol c_ 0)) σ (s_n σ) (s_k σ)).set x (ra x, .inr (0, [.int (nI x), .int (nI (s_pr σ x / 10)), .int (nI (s_pr σ x % 10)), .int (nI (s_ev σ x)), .int (nI (s_ar σ x)), .int (nI (s_vl σ x)), va_rf (rfN ra ((c_ + 1)))])))) := hD
        rw [pool_set hz_x] at hP hD
        exact W.vret hx hb hr (fun u9 hu9 hW => ⟨⟨(hd, (uN ((uN ol c_ 0)) x ((c_ + 1)))), rfl, ⟨pre, [], hsp_, hgt_, Or.inl rfl, Or.inr ⟨pre2, x, hpre_, rfl, by rw [← ho2_]⟩⟩, by have h9 := hP; rw [← hu9] at h9; exact h9⟩, hS.F hu9⟩) hS.2.2 dX2_putInChain_77
    | cons z suf ih =>
      intro pre pv o hsp_ hgt_ hs_ hpv_ ls hl
      have ho_ : o = z + 1 := hs_.1
      subst ho_
      obtain ⟨hz_z, hz_zc⟩ := hm0 z (by rw [hsp_]; exact List.mem_append_right _ List.mem_cons_self)
      obtain ⟨hy_1, hy_2, hy_3, hy_4⟩ := i_row z hz_z
      have hRz := xRow hP hz_z
      have hl : lv_has ls 5 [(0, .ref x0), (1, .ref (ra c_)), (2, .int (nI (s_pr σ c_))), (3, va_rf (rfN ra pv)), (4, .ref (ra z))] := hl
      refine lv_aload hx hb dX2_putInChain_22 (lv_at hl 4 rfl) ?_
      refine lv_ifnull hx hb dX2_putInChain_24 ?_
      refine lv_aload hx hb dX2_putInChain_27 (lv_at hl 4 rfl) ?_
      refine va_get (D := dD) (ci := 0) (v := .int (nI (s_ev σ z))) (C := RX0) (T := TX0) (N := 7) hx hb hts hinX0 hown hK hRz 0 rfl rfl 3 (by decide) (hts (.fieldLink RX2 76 "FeatureStore$Row" "event" "I") (by decide +kernel)) (fun _ h9 => h9) rfl dX2_putInChain_29 ?_
      refine lv_aload_n hx hb dX2_putInChain_32 rfl (lv_at hl 1 rfl) ?_
      refine va_get (D := dD) (ci := 0) (v := .int (nI (s_ev σ c_))) (C := RX0) (T := TX0) (N := 7) hx hb hts hinX0 hown hK hR 0 rfl rfl 3 (by decide) (hts (.fieldLink RX2 76 "FeatureStore$Row" "event" "I") (by decide +kernel)) (fun _ h9 => h9) rfl dX2_putInChain_33 ?_
      refine nv_le (tgt := 52) hx hb dX2_putInChain_36 (by decide) (by omega) (by omega) (fun c_36 => ?_) (fun c_36 => ?_)
      · rcases hpv_ with ⟨hpre_, rfl, ho2_⟩ | ⟨pre2, x, hpre_, rfl, ho2_⟩
        · have hl : lv_has ls 5 [(0, .ref x0), (1, .ref (ra c_)), (2, .int (nI (s_pr σ c_))), (3, .null), (4, .ref (ra z))] := hl
          refine lv_aload_n hx hb dX2_putInChain_52 rfl (lv_at hl 1 rfl) ?_
          refine lv_aload hx hb dX2_putInChain_53 (lv_at hl 4 rfl) ?_
          refine va_put (D := dD) (ci := 0) (v := va_rf (rfN ra ((z + 1)))) (ty := .object "FeatureStore$Row") (C := RX0) (T := TX0) (N := 7) hx hb hts hinX0 tyX0 tyX0_ok nmX0 hown hK hP hD hS (c_ + 6) (pool_row hc_) rfl 6 (by decide) (hts (.fieldLink RX2 87 "FeatureStore$Row" "older" "LFeatureStore$Row;") (by decide +kernel)) (fun _ h9 => h9) rfl (by decide +kernel) nar_rf fit_rf (Nat.le_of_ble_eq_true rfl) dX2_putInChain_55 (fun H locs hP hD hS => ?_)
          have hP : va_P dD vwCl ((x0, .inr (2, [.int (nI (s_now σ)), .ref (b 0), .ref (b 1), .int (nI (s_n σ)), .ref (b 2), .ref (b 3), .int (nI (s_tk σ)), .ref (b 4), .int (nI (s_k σ))])) :: (b 0, .inl (cI, 6, .inl (fun j => nI (s_lt σ j)))) :: (b 1, .inl (cR, 200, .inr (.inr (.inr (.inr (fun j => if j < s_n σ then some (ra j) else none)))))) :: (b 2, .inl (cR, 60, .inr (.inr (.inr (.inr (fun j => rfN ra (hd j))))))) :: (b 3, .inl (cR, 60, .inr (.inr (.inr (.inr (fun j => rfN ra (s_cp σ j))))))) :: (b 4, .inl (cS, 200, .inr (.inr (.inr (.inr (fun j => if j < s_k σ then some (sb j) else none)))))) :: ((poolE ra sb ol σ (s_n σ) (s_k σ)).set c_ (ra c_, .inr (0, [.int (nI c_), .int (nI (s_pr σ c_ / 10)), .int (nI (s_pr σ c_ % 10)), .int (nI (s_ev σ c_)), .int (nI (s_ar σ c_)), .int (nI (s_vl σ c_)), va_rf (rfN ra ((z + 1)))])))) H := hP
          have hD : va_D A ((x0, .inr (2, [.int (nI (s_now σ)), .ref (b 0), .ref (b 1), .int (nI (s_n σ)), .ref (b 2), .ref (b 3), .int (nI (s_tk σ)), .ref (b 4), .int (nI (s_k σ))])) :: (b 0, .inl (cI, 6, .inl (fun j => nI (s_lt σ j)))) :: (b 1, .inl (cR, 200, .inr (.inr (.inr (.inr (fun j => if j < s_n σ then some (ra j) else none)))))) :: (b 2, .inl (cR, 60, .inr (.inr (.inr (.inr (fun j => rfN ra (hd j))))))) :: (b 3, .inl (cR, 60, .inr (.inr (.inr (.inr (fun j => rfN ra (s_cp σ j))))))) :: (b 4, .inl (cS, 200, .inr (.inr (.inr (.inr (fun j => if j < s_k σ then some (sb j) else none)))))) :: ((poolE ra sb ol σ (s_n σ) (s_k σ)).set c_ (ra c_, .inr (0, [.int (nI c_), .int (nI (s_pr σ c_ / 10)), .int (nI (s_pr σ c_ % 10)), .int (nI (s_ev σ c_)), .int (nI (s_ar σ c_)), .int (nI (s_vl σ c_)), va_rf (rfN ra ((z + 1)))])))) := hD
          rw [pool_set hc_] at hP hD
          refine lv_aload_nN hx hb dX2_putInChain_58 rfl (lv_at hl 3 rfl) ?_
          refine lv_ifnonnullN hx hb dX2_putInChain_59 ?_
          refine lv_aload_n hx hb dX2_putInChain_62 rfl (lv_at hl 0 rfl) ?_
          refine va_get (D := dD) (ci := 2) (v := .ref (b 2)) (C := RX2) (T := TX2) (N := 9) hx hb hts hinX2 hown hK hP 0 rfl rfl 4 (by decide) (hts (.fieldLink RX2 19 "FeatureStore" "latest" "[LFeatureStore$Row;") (by decide +kernel)) (fun _ h9 => h9) rfl dX2_putInChain_63 ?_
          refine lv_iload_n hx hb dX2_putInChain_66 rfl (lv_at hl 2 rfl) ?_
          refine lv_aload_n hx hb dX2_putInChain_67 rfl (lv_at hl 1 rfl) ?_
          refine nq_aast (q0 := 3) (t0 := 1) (qk := c_ + 6) (ci := 0) (r := (RX0, TX0, 7)) (fun j => rfN ra (hd j)) (fun j => rfN ra (uN (hd) (s_pr σ c_) (c_ + 1) j)) hx hb hK hP hD hS rfl rfl (pool_row hc_) rfl (by omega) (by decide) upQ dX2_putInChain_68 (fun H locs hP hD hS => ?_)
          have hP : va_P dD vwCl ((x0, .inr (2, [.int (nI (s_now σ)), .ref (b 0), .ref (b 1), .int (nI (s_n σ)), .ref (b 2), .ref (b 3), .int (nI (s_tk σ)), .ref (b 4), .int (nI (s_k σ))])) :: (b 0, .inl (cI, 6, .inl (fun j => nI (s_lt σ j)))) :: (b 1, .inl (cR, 200, .inr (.inr (.inr (.inr (fun j => if j < s_n σ then some (ra j) else none)))))) :: (b 2, .inl (cR, 60, .inr (.inr (.inr (.inr (fun j => rfN ra ((uN (hd) (s_pr σ c_) (c_ + 1)) j))))))) :: (b 3, .inl (cR, 60, .inr (.inr (.inr (.inr (fun j => rfN ra (s_cp σ j))))))) :: (b 4, .inl (cS, 200, .inr (.inr (.inr (.inr (fun j => if j < s_k σ then some (sb j) else none)))))) :: (poolE ra sb (uN ol c_ ((z + 1))) σ (s_n σ) (s_k σ))) H := hP
          have hD : va_D A ((x0, .inr (2, [.int (nI (s_now σ)), .ref (b 0), .ref (b 1), .int (nI (s_n σ)), .ref (b 2), .ref (b 3), .int (nI (s_tk σ)), .ref (b 4), .int (nI (s_k σ))])) :: (b 0, .inl (cI, 6, .inl (fun j => nI (s_lt σ j)))) :: (b 1, .inl (cR, 200, .inr (.inr (.inr (.inr (fun j => if j < s_n σ then some (ra j) else none)))))) :: (b 2, .inl (cR, 60, .inr (.inr (.inr (.inr (fun j => rfN ra ((uN (hd) (s_pr σ c_) (c_ + 1)) j))))))) :: (b 3, .inl (cR, 60, .inr (.inr (.inr (.inr (fun j => rfN ra (s_cp σ j))))))) :: (b 4, .inl (cS, 200, .inr (.inr (.inr (.inr (fun j => if j < s_k σ then some (sb j) else none)))))) :: (poolE ra sb (uN ol c_ ((z + 1))) σ (s_n σ) (s_k σ))) := hD
          refine lv_goto (tgt := 77) hx hb dX2_putInChain_69 (by decide) ?_
          exact W.vret hx hb hr (fun u9 hu9 hW => ⟨⟨(uN hd (s_pr σ c_) (c_ + 1), (uN ol c_ ((z + 1)))), rfl, ⟨pre, (z :: suf), hsp_, hgt_, Or.inr ⟨z, suf, rfl, by omega⟩, Or.inl ⟨hpre_, rfl, by rw [← ho2_]⟩⟩, by have h9 := hP; rw [← hu9] at h9; exact h9⟩, hS.F hu9⟩) hS.2.2 dX2_putInChain_77
        · have hl : lv_has ls 5 [(0, .ref x0), (1, .ref (ra c_)), (2, .int (nI (s_pr σ c_))), (3, .ref (ra x)), (4, .ref (ra z))] := hl
          obtain ⟨hz_x, hz_xc⟩ := hm0 x (by rw [hsp_, hpre_]; exact List.mem_append_left _ (List.mem_append_right _ List.mem_cons_self))
          refine lv_aload_n hx hb dX2_putInChain_52 rfl (lv_at hl 1 rfl) ?_
          refine lv_aload hx hb dX2_putInChain_53 (lv_at hl 4 rfl) ?_
          refine va_put (D := dD) (ci := 0) (v := va_rf (rfN ra ((z + 1)))) (ty := .object "FeatureStore$Row") (C := RX0) (T := TX0) (N := 7) hx hb hts hinX0 tyX0 tyX0_ok nmX0 hown hK hP hD hS (c_ + 6) (pool_row hc_) rfl 6 (by decide) (hts (.fieldLink RX2 87 "FeatureStore$Row" "older" "LFeatureStore$Row;") (by decide +kernel)) (fun _ h9 => h9) rfl (by decide +kernel) nar_rf fit_rf (Nat.le_of_ble_eq_true rfl) dX2_putInChain_55 (fun H locs hP hD hS => ?_)
          have hP : va_P dD vwCl ((x0, .inr (2, [.int (nI (s_now σ)), .ref (b 0), .ref (b 1), .int (nI (s_n σ)), .ref (b 2), .ref (b 3), .int (nI (s_tk σ)), .ref (b 4), .int (nI (s_k σ))])) :: (b 0, .inl (cI, 6, .inl (fun j => nI (s_lt σ j)))) :: (b 1, .inl (cR, 200, .inr (.inr (.inr (.inr (fun j => if j < s_n σ then some (ra j) else none)))))) :: (b 2, .inl (cR, 60, .inr (.inr (.inr (.inr (fun j => rfN ra (hd j))))))) :: (b 3, .inl (cR, 60, .inr (.inr (.inr (.inr (fun j => rfN ra (s_cp σ j))))))) :: (b 4, .inl (cS, 200, .inr (.inr (.inr (.inr (fun j => if j < s_k σ then some (sb j) else none)))))) :: ((poolE ra sb ol σ (s_n σ) (s_k σ)).set c_ (ra c_, .inr (0, [.int (nI c_), .int (nI (s_pr σ c_ / 10)), .int (nI (s_pr σ c_ % 10)), .int (nI (s_ev σ c_)), .int (nI (s_ar σ c_)), .int (nI (s_vl σ c_)), va_rf (rfN ra ((z + 1)))])))) H := hP
          have hD : va_D A ((x0, .inr (2, [.int (nI (s_now σ)), .ref (b 0), .ref (b 1), .int (nI (s_n σ)), .ref (b 2), .ref (b 3), .int (nI (s_tk σ)), .ref (b 4), .int (nI (s_k σ))])) :: (b 0, .inl (cI, 6, .inl (fun j => nI (s_lt σ j)))) :: (b 1, .inl (cR, 200, .inr (.inr (.inr (.inr (fun j => if j < s_n σ then some (ra j) else none)))))) :: (b 2, .inl (cR, 60, .inr (.inr (.inr (.inr (fun j => rfN ra (hd j))))))) :: (b 3, .inl (cR, 60, .inr (.inr (.inr (.inr (fun j => rfN ra (s_cp σ j))))))) :: (b 4, .inl (cS, 200, .inr (.inr (.inr (.inr (fun j => if j < s_k σ then some (sb j) else none)))))) :: ((poolE ra sb ol σ (s_n σ) (s_k σ)).set c_ (ra c_, .inr (0, [.int (nI c_), .int (nI (s_pr σ c_ / 10)), .int (nI (s_pr σ c_ % 10)), .int (nI (s_ev σ c_)), .int (nI (s_ar σ c_)), .int (nI (s_vl σ c_)), va_rf (rfN ra ((z + 1)))])))) := hD
          rw [pool_set hc_] at hP hD
          refine lv_aload_n hx hb dX2_putInChain_58 rfl (lv_at hl 3 rfl) ?_
          refine lv_ifnonnull (tgt := 72) hx hb dX2_putInChain_59 (by decide) ?_
          refine lv_aload_n hx hb dX2_putInChain_72 rfl (lv_at hl 3 rfl) ?_
          refine lv_aload_n hx hb dX2_putInChain_73 rfl (lv_at hl 1 rfl) ?_
          refine va_put (D := dD) (ci := 0) (v := va_rf (rfN ra ((c_ + 1)))) (ty := .object "FeatureStore$Row") (C := RX0) (T := TX0) (N := 7) hx hb hts hinX0 tyX0 tyX0_ok nmX0 hown hK hP hD hS (x + 6) (pool_row hz_x) rfl 6 (by decide) (hts (.fieldLink RX2 87 "FeatureStore$Row" "older" "LFeatureStore$Row;") (by decide +kernel)) (fun _ h9 => h9) rfl (by decide +kernel) nar_rf fit_rf (Nat.le_of_ble_eq_true rfl) dX2_putInChain_74 (fun H locs hP hD hS => ?_)
          have hP : va_P dD vwCl ((x0, .inr (2, [.int (nI (s_now σ)), .ref (b 0), .ref (b 1), .int (nI (s_n σ)), .ref (b 2), .ref (b 3), .int (nI (s_tk σ)), .ref (b 4), .int (nI (s_k σ))])) :: (b 0, .inl (cI, 6, .inl (fun j => nI (s_lt σ j)))) :: (b 1, .inl (cR, 200, .inr (.inr (.inr (.inr (fun j => if j < s_n σ then some (ra j) else none)))))) :: (b 2, .inl (cR, 60, .inr (.inr (.inr (.inr (fun j => rfN ra (hd j))))))) :: (b 3, .inl (cR, 60, .inr (.inr (.inr (.inr (fun j => rfN ra (s_cp σ j))))))) :: (b 4, .inl (cS, 200, .inr (.inr (.inr (.inr (fun j => if j < s_k σ then some (sb j) else none)))))) :: ((poolE ra sb ((uN ol c_ ((z + 1)))) σ (s_n σ) (s_k σ)).set x (ra x, .inr (0, [.int (nI x), .int (nI (s_pr σ x / 10)), .int (nI (s_pr σ x % 10)), .int (nI (s_ev σ x)), .int (nI (s_ar σ x)), .int (nI (s_vl σ x)), va_rf (rfN ra ((c_ + 1)))])))) H := hP
          have hD : va_D A ((x0, .inr (2, [.int (nI (s_now σ)), .ref (b 0), .ref (b 1), .int (nI (s_n σ)), .ref (b 2), .ref (b 3), .int (nI (s_tk σ)), .ref (b 4), .int (nI (s_k σ))])) :: (b 0, .inl (cI, 6, .inl (fun j => nI (s_lt σ j)))) :: (b 1, .inl (cR, 200, .inr (.inr (.inr (.inr (fun j => if j < s_n σ then some (ra j) else none)))))) :: (b 2, .inl (cR, 60, .inr (.inr (.inr (.inr (fun j => rfN ra (hd j))))))) :: (b 3, .inl (cR, 60, .inr (.inr (.inr (.inr (fun j => rfN ra (s_cp σ j))))))) :: (b 4, .inl (cS, 200, .inr (.inr (.inr (.inr (fun j => if j < s_k σ then some (sb j) else none)))))) :: ((poolE ra sb ((uN ol c_ ((z + 1)))) σ (s_n σ) (s_k σ)).set x (ra x, .inr (0, [.int (nI x), .int (nI (s_pr σ x / 10)), .int (nI (s_pr σ x % 10)), .int (nI (s_ev σ x)), .int (nI (s_ar σ x)), .int (nI (s_vl σ x)), va_rf (rfN ra ((c_ + 1)))])))) := hD
          rw [pool_set hz_x] at hP hD
          exact W.vret hx hb hr (fun u9 hu9 hW => ⟨⟨(hd, (uN ((uN ol c_ ((z + 1)))) x ((c_ + 1)))), rfl, ⟨pre, (z :: suf), hsp_, hgt_, Or.inr ⟨z, suf, rfl, by omega⟩, Or.inr ⟨pre2, x, hpre_, rfl, by rw [← ho2_]⟩⟩, by have h9 := hP; rw [← hu9] at h9; exact h9⟩, hS.F hu9⟩) hS.2.2 dX2_putInChain_77
      · refine lv_aload hx hb dX2_putInChain_39 (lv_at hl 4 rfl) ?_
        refine lv_astore_n (lv' := [(3, .ref (ra z)), (0, .ref x0), (1, .ref (ra c_)), (2, .int (nI (s_pr σ c_))), (4, .ref (ra z))]) hx hb dX2_putInChain_41 rfl hl (by decide) rfl (fun ls hl => ?_)
        refine lv_aload hx hb dX2_putInChain_42 (lv_at hl 4 rfl) ?_
        refine va_get (D := dD) (ci := 0) (v := va_rf (rfN ra (ol z))) (C := RX0) (T := TX0) (N := 7) hx hb hts hinX0 hown hK hRz 0 rfl rfl 6 (by decide) (hts (.fieldLink RX2 87 "FeatureStore$Row" "older" "LFeatureStore$Row;") (by decide +kernel)) (fun _ h9 => h9) rfl dX2_putInChain_44 ?_
        refine nq_astore (lv' := [(4, va_rf (rfN ra (ol z))), (3, .ref (ra z)), (0, .ref x0), (1, .ref (ra c_)), (2, .int (nI (s_pr σ c_)))]) hx hb dX2_putInChain_47 hl (by decide) rfl (fun ls hl => ?_)
        refine lv_goto (tgt := 22) hx hb dX2_putInChain_49 (by decide) ?_
        exact ih (pre ++ [z]) (z + 1) (ol z) (by rw [List.append_assoc]; exact hsp_) (fun y hy => by rcases List.mem_append.mp hy with hy | hy; exact hgt_ y hy; rw [List.mem_singleton.mp hy]; omega) hs_.2 (Or.inr ⟨pre, z, rfl, rfl, rfl⟩) ls (lv_sub hl [2, 3, 4, 1, 0] rfl)
  exact hlp l0 [] 0 (hd (s_pr σ c_)) rfl (fun y hy => absurd hy List.not_mem_nil) hl0 (Or.inl ⟨rfl, rfl, rfl⟩) ls (lv_sub hl [3, 4, 2, 1, 0] rfl)

set_option maxHeartbeats 4000000 in
set_option maxRecDepth 100000 in
theorem c_X2_arrive (l : Launch) (dD : va_G) (cI cR cS : ClassId) (lo : Nat) (hfl : l.stackTraces = false) (sz : Nat) (hlo : lo ≤ sz) (x0 : Nat) (b ra sb hd ol : Nat → Nat) (σ : St) (hI : sI σ) (hX : xI σ hd ol) (hJ : xJ σ hd ol) (f e v y : Int32) : vx_Met l yX2_arrive wsX2_arrive ({ frames := 8, cells := 5, slots := 31, locals := 125 }) (ePc dD cI cR cS lo [.ref x0, .int f, .int e, .int v, .int y] (fun H => H.size = sz ∧ va_P dD vwCl (xW cI cR cS x0 b ra sb hd ol σ) H ∧ va_D (fun q => lo ≤ q) (xW cI cR cS x0 b ra sb hd ol σ))) (va_Qi (fun (r : Int32) (u : St × (Nat → Nat) × (Nat → Nat) × (Nat → Nat)) => ((okP f e ∧ rg v 0 (s_now σ) ∧ rg y 0 100000) ∧ s_n σ < 200) ∧ u.1 = g_arrive σ (plN f e) (cl v) (cl y) ∧ xI u.1 u.2.2.1 u.2.2.2 ∧ xJ u.1 u.2.2.1 u.2.2.2 ∧ r = nI (s_n σ)) (fun u t => va_P dD vwCl (xW cI cR cS x0 b u.2.1 sb u.2.2.1 u.2.2.2 u.1) t.heap ∧ va_D (va_A (xW cI cR cS x0 b ra sb hd ol σ) sz) (xW cI cR cS x0 b u.2.1 sb u.2.2.1 u.2.2.2 u.1)) (va_A (xW cI cR cS x0 b ra sb hd ol σ) sz)) (eX (fun E => (E = nIAE ∧ ¬ (okP f e ∧ rg v 0 (s_now σ) ∧ rg y 0 100000)) ∨ (E = nISE ∧ (okP f e ∧ rg v 0 (s_now σ) ∧ rg y 0 100000) ∧ ¬ s_n σ < 200))) 5 31 (va_A (xW cI cR cS x0 b ra sb hd ol σ) sz) := by
  refine vx_ofW (cc := cX2_arrive) (maxL := 6) (ret := (some .int)) (by decide) rfl ?_
  intro p e_ s m args below meth c s₁ B hml hnt hv
  obtain ⟨rfl, hE, hsz, hP, hD0⟩ := hv
  have hx := B.exec
  have hb := B.bytes
  have hr := B.returns
  have hts := atoms_spec (ws := wsX2_arrive) B.pre
  have hown : s.vm.findClass RX2 = some m.cls := findClass_of_methodNamed B.named
  have hlocks := B.notSynchronized
  have hK := hE.1.1
  have hinX0 : ∀ w ∈ u_ws RX0 TX0 7, w ∈ wsX2_arrive := by decide +kernel
  have hinX2 : ∀ w ∈ u_ws RX2 TX2 9, w ∈ wsX2_arrive := by decide +kernel
  subst hsz
  have hD := hD0.self (sz := s.heap.size)
  have hAlo : ∀ q, va_A (xW cI cR cS x0 b ra sb hd ol σ) s.heap.size q → lo ≤ q := eA_lo hD0 hlo
  generalize hAe : va_A (xW cI cR cS x0 b ra sb hd ol σ) s.heap.size = A at hD hAlo ⊢
  have hA : ∀ q : Nat, s.heap.size ≤ q → A q := fun q h => by rw [← hAe]; exact Or.inr h
  have hS : va_S A s.heap s.heap [] := va_S.rf
  have hP : va_P dD vwCl (xW cI cR cS x0 b ra sb hd ol σ) s.heap := hP
  obtain ⟨i_now, i_n, i_tk, i_k, i_lt, i_row, i_cp, i_srv⟩ := id hI
  have hl := lv_entry ([.ref x0, .int f, .int e, .int v, .int y]) (n := 6) (Nat.le_of_ble_eq_true rfl)
  rw [lg_entry_eq]
  generalize (lg_sl ([.ref x0, .int f, .int e, .int v, .int y]) ++ List.replicate (6 - (lg_sl ([.ref x0, .int f, .int e, .int v, .int y])).length) Slot.unset).toArray = ls at hl ⊢
  have hl : lv_has ls 6 [(0, .ref x0), (1, .int f), (2, .int e), (3, .int v), (4, .int y)] := hl
  refine lv_iload_n hx hb dX2_arrive_0 rfl (lv_at hl 1 rfl) ?_
  refine lv_iload_n hx hb dX2_arrive_1 rfl (lv_at hl 2 rfl) ?_
  refine nx_callv (vx_runS (As := [.int f, .int e]) (rest := []) ⟨hx, hb, hml, hown, hts⟩ (c_X2_requirePair l dD cI cR cS lo hfl f e) (va_cwS 2 hts gX2_arrive_X2_requirePair rfl rfl rfl (by decide +kernel) ⟨Nat.le_of_ble_eq_true rfl, Nat.le_of_ble_eq_true rfl⟩) (ePreS hE va_S.rf trivial) rfl rfl hl.1 rfl (lv_room (Nat.le_of_ble_eq_true rfl)) dX2_arrive_2 ⟨Nat.le_of_ble_eq_true rfl, Nat.le_of_ble_eq_true rfl⟩) (fun E ce q9 H1 hX9 hz9 hk9 hc9 hv9 hf9 => vx_out (fun x hx => (hnt x hx).elim) hlocks hc9 hv9 hf9 (fun t9 ht9 _ => ⟨Or.inl ⟨hX9.1, fun h => hX9.2 h.1⟩, by rw [ht9]; exact hz9, fun q hq _ => by rw [ht9]; exact hk9 q hq⟩) (fun z hz => absurd hz List.not_mem_nil) (by decide) (by decide)) (fun hr_2 => ?_)
  refine lv_iload_n hx hb dX2_arrive_5 rfl (lv_at hl 3 rfl) ?_
  refine lv_iconst (v := nI 0) hx hb dX2_arrive_6 (by decide +kernel) ?_
  refine lv_aload_n hx hb dX2_arrive_7 rfl (lv_at hl 0 rfl) ?_
  refine va_get (D := dD) (ci := 2) (v := .int (nI (s_now σ))) (C := RX2) (T := TX2) (N := 9) hx hb hts hinX2 hown hK hP 0 rfl rfl 0 (by decide) (hts (.fieldLink RX2 35 "FeatureStore" "now" "I") (by decide +kernel)) (fun _ h9 => h9) rfl dX2_arrive_8 ?_
  refine nx_callv (vx_runS (As := [.int v, .int (nI 0), .int (nI (s_now σ))]) (rest := []) ⟨hx, hb, hml, hown, hts⟩ (c_X2_requireRange l dD cI cR cS lo hfl v (nI 0) (nI (s_now σ))) (va_cwS 3 hts gX2_arrive_X2_requireRange rfl rfl rfl (by decide +kernel) ⟨Nat.le_of_ble_eq_true rfl, Nat.le_of_ble_eq_true rfl⟩) (ePreS hE va_S.rf trivial) rfl rfl hl.1 rfl (lv_room (Nat.le_of_ble_eq_true rfl)) dX2_arrive_11 ⟨Nat.le_of_ble_eq_true rfl, Nat.le_of_ble_eq_true rfl⟩) (fun E ce q9 H1 hX9 hz9 hk9 hc9 hv9 hf9 => vx_out (fun x hx => (hnt x hx).elim) hlocks hc9 hv9 hf9 (fun t9 ht9 _ => ⟨Or.inl ⟨hX9.1, fun h => hX9.2 h.2.1⟩, by rw [ht9]; exact hz9, fun q hq _ => by rw [ht9]; exact hk9 q hq⟩) (fun z hz => absurd hz List.not_mem_nil) (by decide) (by decide)) (fun hr_11 => ?_)
  refine lv_iload hx hb dX2_arrive_14 (lv_at hl 4 rfl) ?_
  refine lv_iconst (v := nI 0) hx hb dX2_arrive_16 (by decide +kernel) ?_
  refine lv_ldc (v := nI 100000) hx hb hown (hts (.constant RX2 43 100000) (by decide +kernel)) dX2_arrive_17 ?_
  refine nx_callv (vx_runS (As := [.int y, .int (nI 0), .int (nI 100000)]) (rest := []) ⟨hx, hb, hml, hown, hts⟩ (c_X2_requireRange l dD cI cR cS lo hfl y (nI 0) (nI 100000)) (va_cwS 3 hts gX2_arrive_X2_requireRange rfl rfl rfl (by decide +kernel) ⟨Nat.le_of_ble_eq_true rfl, Nat.le_of_ble_eq_true rfl⟩) (ePreS hE va_S.rf trivial) rfl rfl hl.1 rfl (lv_room (Nat.le_of_ble_eq_true rfl)) dX2_arrive_19 ⟨Nat.le_of_ble_eq_true rfl, Nat.le_of_ble_eq_true rfl⟩) (fun E ce q9 H1 hX9 hz9 hk9 hc9 hv9 hf9 => vx_out (fun x hx => (hnt x hx).elim) hlocks hc9 hv9 hf9 (fun t9 ht9 _ => ⟨Or.inl ⟨hX9.1, fun h => hX9.2 h.2.2⟩, by rw [ht9]; exact hz9, fun q hq _ => by rw [ht9]; exact hk9 q hq⟩) (fun z hz => absurd hz List.not_mem_nil) (by decide) (by decide)) (fun hr_19 => ?_)
  refine lv_aload_n hx hb dX2_arrive_22 rfl (lv_at hl 0 rfl) ?_
  refine va_get (D := dD) (ci := 2) (v := .int (nI (s_n σ))) (C := RX2) (T := TX2) (N := 9) hx hb hts hinX2 hown hK hP 0 rfl rfl 3 (by decide) (hts (.fieldLink RX2 44 "FeatureStore" "rowCount" "I") (by decide +kernel)) (fun _ h9 => h9) rfl dX2_arrive_23 ?_
  refine lv_sipush (v := nI 200) hx hb dX2_arrive_26 (by decide +kernel) ?_
  refine nv_lt (tgt := 42) hx hb dX2_arrive_29 (by decide) (by omega) (by omega) (fun c_29 => ?_) (fun c_29 => ?_)
  · obtain ⟨fn, hfn1, hfn2, rfl⟩ := rg_of (by decide) (by decide) (hr_2.1)
    obtain ⟨en, hen1, hen2, rfl⟩ := rg_of (by decide) (by decide) (hr_2.2)
    obtain ⟨vn, hvn1, hvn2, rfl⟩ := rg_of (by decide) (by omega) (hr_11)
    obtain ⟨yn, hyn1, hyn2, rfl⟩ := rg_of (by decide) (by decide) (hr_19)
    refine va_new (ci := 0) (fs := [.int 0, .int 0, .int 0, .int 0, .int 0, .int 0, .null]) (C := RX0) (T := TX0) (N := 7) hx hb hts hinX0 tyX0 tyX0_ok hown (hts (.classLink RX2 13 RX0) (by decide +kernel)) (hts (.instantiable RX0 7) (by decide +kernel)) (hts (.initialized RX0) (by decide +kernel)) hK hP hD hS hA rfl (fun j hj => by rcases (show j = 0 ∨ j = 1 ∨ j = 2 ∨ j = 3 ∨ j = 4 ∨ j = 5 ∨ j = 6 by omega) with rfl | rfl | rfl | rfl | rfl | rfl | rfl <;> rfl) (Nat.le_of_ble_eq_true rfl) (Nat.le_of_ble_eq_true rfl) dX2_arrive_42 (fun q5 H hP hD hS => ?_)
    have hP : va_P dD vwCl ((xW cI cR cS x0 b ra sb hd ol σ) ++ [(q5, .inr (0, [.int 0, .int 0, .int 0, .int 0, .int 0, .int 0, .null]))]) H := hP
    have hD : va_D A ((xW cI cR cS x0 b ra sb hd ol σ) ++ [(q5, .inr (0, [.int 0, .int 0, .int 0, .int 0, .int 0, .int 0, .null]))]) := hD
    have hAH : ∀ q : Nat, H.size ≤ q → A q := fun q h => hA q (Nat.le_trans hS.1 h)
    have hFc := fr_freeR (w1 := [(q5, .inr (0, [.int 0, .int 0, .int 0, .int 0, .int 0, .int 0, .null]))]) hD hAH
    refine lv_dup hx hb dX2_arrive_45 rfl ?_
    refine lv_aload_n hx hb dX2_arrive_46 rfl (lv_at hl 0 rfl) ?_
    refine va_get (D := dD) (ci := 2) (v := .int (nI (s_n σ))) (C := RX2) (T := TX2) (N := 9) hx hb hts hinX2 hown hK hP 0 rfl rfl 3 (by decide) (hts (.fieldLink RX2 44 "FeatureStore" "rowCount" "I") (by decide +kernel)) (fun _ h9 => h9) rfl dX2_arrive_47 ?_
    refine lv_iload_n hx hb dX2_arrive_50 rfl (lv_at hl 1 rfl) ?_
    refine lv_iload_n hx hb dX2_arrive_51 rfl (lv_at hl 2 rfl) ?_
    refine lv_iload_n hx hb dX2_arrive_52 rfl (lv_at hl 3 rfl) ?_
    refine lv_aload_n hx hb dX2_arrive_53 rfl (lv_at hl 0 rfl) ?_
    refine va_get (D := dD) (ci := 2) (v := .int (nI (s_now σ))) (C := RX2) (T := TX2) (N := 9) hx hb hts hinX2 hown hK hP 0 rfl rfl 0 (by decide) (hts (.fieldLink RX2 35 "FeatureStore" "now" "I") (by decide +kernel)) (fun _ h9 => h9) rfl dX2_arrive_54 ?_
    refine lv_iload hx hb dX2_arrive_57 (lv_at hl 4 rfl) ?_
    refine va_callv (va_runI (As := [.int (nI (s_n σ)), .int (nI fn), .int (nI en), .int (nI vn), .int (nI (s_now σ)), .int (nI yn)]) (rest := [.ref q5]) ⟨hx, hb, hml, hown, hts⟩ (c_X0_init l dD cI cR cS lo H.size q5 (nI (s_n σ)) (nI fn) (nI en) (nI vn) (nI (s_now σ)) (nI yn)) (cwI 6 hts gX2_arrive_X0_init rfl rfl rfl (hts (.initialized RX0) (by decide +kernel)) (hts (.methodLink RX2 54 yX0_init) (by decide +kernel)) (hts (.instanceMethod yX0_init) (by decide +kernel)) rfl (by decide +kernel) ⟨Nat.le_of_ble_eq_true rfl, Nat.le_of_ble_eq_true rfl⟩) (ePreS hE (hS.mono hAlo) ⟨rfl, vP_app2 hP, vD_mono (vD_app2 hD) (fun _ _ => trivial)⟩) rfl rfl hl.1 rfl (lv_room (Nat.le_of_ble_eq_true rfl)) dX2_arrive_59 ⟨Nat.le_of_ble_eq_true rfl, Nat.le_of_ble_eq_true rfl⟩) hS (fun q _ h => hFc q h) hFc (fun u_ t_ H1 locs ht_ hvm_ hw_ hB_ hz_ hk_ hS => ?_)
    obtain ⟨hP, hD⟩ := fr_joinR (w1' := [(q5, .inr (0, [.int (nI (s_n σ)), .int (nI fn), .int (nI en), .int (nI vn), .int (nI (s_now σ)), .int (nI yn), .null]))]) hP hD hAH hk_ (by rw [← ht_]; exact hB_) (va_D_fst (vD_app2 hD).self rfl)
    have hAH : ∀ q : Nat, H1.size ≤ q → A q := fun q h => hA q (Nat.le_trans hS.1 h)
    have hPn := vP_perm (xNew (by omega) (by omega) hJ) hP
    have hDn := vD_perm (xNew (by omega) (by omega) hJ) hD
    obtain ⟨ra', hra⟩ : ∃ z, z = uN ra (s_n σ) q5 := ⟨_, rfl⟩
    rw [← hra] at hPn hDn
    have hq5 : ra' (s_n σ) = q5 := by rw [hra, uN_s]
    clear hFc
    subst hq5
    have hP := hPn
    have hD := hDn
    refine lv_astore (lv' := [(5, .ref (ra' (s_n σ))), (0, .ref x0), (1, .int (nI fn)), (2, .int (nI en)), (3, .int (nI vn)), (4, .int (nI yn))]) hx hb dX2_arrive_62 hl (by decide) rfl (fun ls hl => ?_)
    refine lv_aload_n hx hb dX2_arrive_64 rfl (lv_at hl 1 rfl) ?_
    refine va_get (D := dD) (ci := 2) (v := .ref (b 1)) (C := RX2) (T := TX2) (N := 9) hx hb hts hinX2 hown hK hP 0 rfl rfl 2 (by decide) (hts (.fieldLink RX2 15 "FeatureStore" "rows" "[LFeatureStore$Row;") (by decide +kernel)) (fun _ h9 => h9) rfl dX2_arrive_65 ?_
    refine lv_aload_n hx hb dX2_arrive_68 rfl (lv_at hl 1 rfl) ?_
    refine va_get (D := dD) (ci := 2) (v := .int (nI (s_n σ))) (C := RX2) (T := TX2) (N := 9) hx hb hts hinX2 hown hK hP 0 rfl rfl 3 (by decide) (hts (.fieldLink RX2 44 "FeatureStore" "rowCount" "I") (by decide +kernel)) (fun _ h9 => h9) rfl dX2_arrive_69 ?_
    refine lv_aload hx hb dX2_arrive_72 (lv_at hl 0 rfl) ?_
    refine nq_aast (q0 := 2) (t0 := 1) (qk := s_n σ + 6) (ci := 0) (r := (RX0, TX0, 7)) (fun j => if j < s_n σ then some (ra' j) else none) (fun j => if j < s_n σ + 1 then some (ra' j) else none) hx hb hK hP hD hS rfl rfl (pool_row (Nat.lt_succ_self _)) rfl (by omega) (by decide) upP dX2_arrive_74 (fun H locs hP hD hS => ?_)
    have hP : va_P dD vwCl ((x0, .inr (2, [.int (nI (s_now σ)), .ref (b 0), .ref (b 1), .int (nI (s_n σ)), .ref (b 2), .ref (b 3), .int (nI (s_tk σ)), .ref (b 4), .int (nI (s_k σ))])) :: (b 0, .inl (cI, 6, .inl (fun j => nI (s_lt σ j)))) :: (b 1, .inl (cR, 200, .inr (.inr (.inr (.inr (fun j => if j < s_n σ + 1 then some ((ra') j) else none)))))) :: (b 2, .inl (cR, 60, .inr (.inr (.inr (.inr (fun j => rfN (ra') (hd j))))))) :: (b 3, .inl (cR, 60, .inr (.inr (.inr (.inr (fun j => rfN (ra') (s_cp σ j))))))) :: (b 4, .inl (cS, 200, .inr (.inr (.inr (.inr (fun j => if j < s_k σ then some (sb j) else none)))))) :: (poolE ra' sb (uN ol (s_n σ) 0) (g_arrive σ (10 * fn + en) vn yn) (s_n σ + 1) (s_k σ))) H := hP
    have hD : va_D A ((x0, .inr (2, [.int (nI (s_now σ)), .ref (b 0), .ref (b 1), .int (nI (s_n σ)), .ref (b 2), .ref (b 3), .int (nI (s_tk σ)), .ref (b 4), .int (nI (s_k σ))])) :: (b 0, .inl (cI, 6, .inl (fun j => nI (s_lt σ j)))) :: (b 1, .inl (cR, 200, .inr (.inr (.inr (.inr (fun j => if j < s_n σ + 1 then some ((ra') j) else none)))))) :: (b 2, .inl (cR, 60, .inr (.inr (.inr (.inr (fun j => rfN (ra') (hd j))))))) :: (b 3, .inl (cR, 60, .inr (.inr (.inr (.inr (fun j => rfN (ra') (s_cp σ j))))))) :: (b 4, .inl (cS, 200, .inr (.inr (.inr (.inr (fun j => if j < s_k σ then some (sb j) else none)))))) :: (poolE ra' sb (uN ol (s_n σ) 0) (g_arrive σ (10 * fn + en) vn yn) (s_n σ + 1) (s_k σ))) := hD
    refine lv_aload_n hx hb dX2_arrive_75 rfl (lv_at hl 1 rfl) ?_
    refine lv_dup hx hb dX2_arrive_76 rfl ?_
    refine va_get (D := dD) (ci := 2) (v := .int (nI (s_n σ))) (C := RX2) (T := TX2) (N := 9) hx hb hts hinX2 hown hK hP 0 rfl rfl 3 (by decide) (hts (.fieldLink RX2 44 "FeatureStore" "rowCount" "I") (by decide +kernel)) (fun _ h9 => h9) rfl dX2_arrive_77 ?_
    refine lv_iconst (v := nI 1) hx hb dX2_arrive_80 (by decide +kernel) ?_
    refine nv_iadd hx hb dX2_arrive_81 ?_
    refine va_put (D := dD) (ci := 2) (v := .int (nI ((s_n σ) + 1))) (ty := .int) (C := RX2) (T := TX2) (N := 9) hx hb hts hinX2 tyX2 tyX2_ok nmX2 hown hK hP hD hS 0 rfl rfl 3 (by decide) (hts (.fieldLink RX2 44 "FeatureStore" "rowCount" "I") (by decide +kernel)) (fun _ h9 => h9) rfl (by decide +kernel) rfl rfl (Nat.le_of_ble_eq_true rfl) dX2_arrive_82 (fun H locs hP hD hS => ?_)
    have hP : va_P dD vwCl ((x0, .inr (2, [.int (nI (s_now σ)), .ref (b 0), .ref (b 1), .int (nI ((s_n σ) + 1)), .ref (b 2), .ref (b 3), .int (nI (s_tk σ)), .ref (b 4), .int (nI (s_k σ))])) :: (b 0, .inl (cI, 6, .inl (fun j => nI (s_lt σ j)))) :: (b 1, .inl (cR, 200, .inr (.inr (.inr (.inr (fun j => if j < s_n σ + 1 then some ((ra') j) else none)))))) :: (b 2, .inl (cR, 60, .inr (.inr (.inr (.inr (fun j => rfN (ra') (hd j))))))) :: (b 3, .inl (cR, 60, .inr (.inr (.inr (.inr (fun j => rfN (ra') (s_cp σ j))))))) :: (b 4, .inl (cS, 200, .inr (.inr (.inr (.inr (fun j => if j < s_k σ then some (sb j) else none)))))) :: (poolE ra' sb (uN ol (s_n σ) 0) (g_arrive σ (10 * fn + en) vn yn) (s_n σ + 1) (s_k σ))) H := hP
    have hD : va_D A ((x0, .inr (2, [.int (nI (s_now σ)), .ref (b 0), .ref (b 1), .int (nI ((s_n σ) + 1)), .ref (b 2), .ref (b 3), .int (nI (s_tk σ)), .ref (b 4), .int (nI (s_k σ))])) :: (b 0, .inl (cI, 6, .inl (fun j => nI (s_lt σ j)))) :: (b 1, .inl (cR, 200, .inr (.inr (.inr (.inr (fun j => if j < s_n σ + 1 then some ((ra') j) else none)))))) :: (b 2, .inl (cR, 60, .inr (.inr (.inr (.inr (fun j => rfN (ra') (hd j))))))) :: (b 3, .inl (cR, 60, .inr (.inr (.inr (.inr (fun j => rfN (ra') (s_cp σ j))))))) :: (b 4, .inl (cS, 200, .inr (.inr (.inr (.inr (fun j => if j < s_k σ then some (sb j) else none)))))) :: (poolE ra' sb (uN ol (s_n σ) 0) (g_arrive σ (10 * fn + en) vn yn) (s_n σ + 1) (s_k σ))) := hD
    refine lv_aload_n hx hb dX2_arrive_85 rfl (lv_at hl 1 rfl) ?_
    refine lv_aload hx hb dX2_arrive_86 (lv_at hl 0 rfl) ?_
    have hP : va_P dD vwCl (xW cI cR cS x0 b ra' sb hd (uN ol (s_n σ) 0) (g_arrive σ (10 * fn + en) vn yn)) H := hP
    have hD : va_D A (xW cI cR cS x0 b ra' sb hd (uN ol (s_n σ) 0) (g_arrive σ (10 * fn + en) vn yn)) := hD
    have hAH : ∀ q : Nat, H.size ≤ q → A q := fun q h => hA q (Nat.le_trans hS.1 h)
    have hFc := fr_free (w2 := []) (by rw [List.append_nil]; exact hD) hAH
    have hI' : sI (g_arrive σ (10 * fn + en) vn yn) := sI_arrive hI (by omega) (by omega) (by omega) (by omega)
    have hq_ : s_pr (g_arrive σ (10 * fn + en) vn yn) (s_n σ) = 10 * fn + en := by rw [ga_pr, uN_s]
    have hl0 : seg (uN ol (s_n σ) 0) (hd (s_pr (g_arrive σ (10 * fn + en) vn yn) (s_n σ))) (chn σ (10 * fn + en) (s_n σ)) := by
      rw [hq_]
      exact seg_congr (fun y hy => uN_n (by have := (mem_chn.mp hy).1; omega)) (hX _ (by omega))
    have hm0 : ∀ y ∈ chn σ (10 * fn + en) (s_n σ), y < s_n (g_arrive σ (10 * fn + en) vn yn) ∧ y ≠ s_n σ := fun y hy => by have := (mem_chn.mp hy).1; rw [ga_n]; omega
    refine va_callv (va_runV (As := [.ref (ra' (s_n σ))]) (rest := []) ⟨hx, hb, hml, hown, hts⟩ (c_X2_putInChain l dD cI cR cS lo H.size (Nat.le_trans hlo hS.1) x0 b ra' sb hd (uN ol (s_n σ) 0) (g_arrive σ (10 * fn + en) vn yn) hI' (s_n σ) (Nat.lt_succ_self _) _ hl0 hm0) (cwV 1 hts gX2_arrive_X2_putInChain rfl rfl rfl (by decide +kernel) ⟨Nat.le_of_ble_eq_true rfl, Nat.le_of_ble_eq_true rfl⟩) (ePreV hE (hS.mono hAlo) hP (k := 0) rfl rfl ⟨rfl, hP, vD_mono hD hAlo⟩) rfl rfl hl.1 rfl (lv_room (Nat.le_of_ble_eq_true rfl)) dX2_arrive_88 ⟨Nat.le_of_ble_eq_true rfl, Nat.le_of_ble_eq_true rfl⟩) hS (fun q _ h => hFc q h) hFc (fun u_ t_ H1 locs ht_ hvm_ hp_ hB_ hz_ hk_ hS => ?_)
    obtain ⟨hd', ol'⟩ := u_
    have hP : va_P dD vwCl (xW cI cR cS x0 b ra' sb hd' ol' (g_arrive σ (10 * fn + en) vn yn)) H1 := by rw [← ht_]; exact hB_
    have hD : va_D A (xW cI cR cS x0 b ra' sb hd' ol' (g_arrive σ (10 * fn + en) vn yn)) := xD_to hD rfl rfl
    rw [hq_] at hp_
    have hRn := xRow (i := s_n σ) hP (Nat.lt_succ_self _)
    refine lv_aload hx hb dX2_arrive_91 (lv_at hl 0 rfl) ?_
    refine va_get (D := dD) (ci := 0) (v := .int (nI (s_n σ))) (C := RX0) (T := TX0) (N := 7) hx hb hts hinX0 hown hK hRn 0 rfl rfl 0 (by decide) (hts (.fieldLink RX2 61 "FeatureStore$Row" "number" "I") (by decide +kernel)) (fun _ h9 => h9) rfl dX2_arrive_93 ?_
    exact vx_ret (W.widen (k := 5) (n := 31) (by decide) (by decide) (W.iret (v := nI (s_n σ)) hx hb hr (fun u9 hu9 hW => ⟨⟨nI (s_n σ), ((g_arrive σ (10 * fn + en) vn yn), ra', hd', ol'), rfl, ⟨⟨⟨hr_2, hr_11, hr_19⟩, by omega⟩, by rw [plN, cl_nI (by omega), cl_nI (by omega), cl_nI (by omega), cl_nI (by omega)], xI_arrive (by omega) hX hp_, xJ_arrive hJ hp_, rfl⟩, by have h9 := hP; rw [← hu9] at h9; exact ⟨h9, hAe ▸ hD⟩⟩, hS.F hu9⟩) hS.2.2 dX2_arrive_96))
  · exact nx_throw hx hb hfl hown hml hnt hlocks hts (by decide +kernel) (by decide +kernel) bad_ise ot_ise hE hE.1.2.1 hl dX2_arrive_32 dX2_arrive_35 dX2_arrive_36 dX2_arrive_38 dX2_arrive_41 (Nat.le_of_ble_eq_true rfl) (Nat.le_of_ble_eq_true rfl) (Nat.le_of_ble_eq_true rfl) (Nat.le_of_ble_eq_true rfl) (Or.inr ⟨rfl, ⟨hr_2, hr_11, hr_19⟩, by omega⟩) (by decide) (by decide)

set_option maxHeartbeats 4000000 in
set_option maxRecDepth 100000 in
theorem c_X2_serve (l : Launch) (dD : va_G) (cI cR cS : ClassId) (lo : Nat) (hfl : l.stackTraces = false) (sz : Nat) (hlo : lo ≤ sz) (x0 : Nat) (b ra sb hd ol : Nat → Nat) (σ : St) (hI : sI σ) (f e : Int32) : vx_Met l yX2_serve wsX2_serve ({ frames := 8, cells := 3, slots := 18, locals := 125 }) (ePc dD cI cR cS lo [.ref x0, .int f, .int e] (fun H => H.size = sz ∧ va_P dD vwCl (xW cI cR cS x0 b ra sb hd ol σ) H ∧ va_D (fun q => lo ≤ q) (xW cI cR cS x0 b ra sb hd ol σ))) (va_Qi (fun (r : Int32) (u : St × (Nat → Nat)) => (okP f e ∧ s_k σ < 200) ∧ u.1 = g_serve σ (plN f e) ∧ r = eN (q_fr σ (s_cp σ (plN f e)) (s_now σ))) (fun u t => va_P dD vwCl (xW cI cR cS x0 b ra u.2 hd ol u.1) t.heap ∧ va_D (va_A (xW cI cR cS x0 b ra sb hd ol σ) sz) (xW cI cR cS x0 b ra u.2 hd ol u.1)) (va_A (xW cI cR cS x0 b ra sb hd ol σ) sz)) (eX (fun E => (E = nIAE ∧ ¬ okP f e) ∨ (E = nISE ∧ okP f e ∧ ¬ s_k σ < 200))) 3 18 (va_A (xW cI cR cS x0 b ra sb hd ol σ) sz) := by
  refine vx_ofW (cc := cX2_serve) (maxL := 4) (ret := (some .int)) (by decide) rfl ?_
  intro p e_ s m args below meth c s₁ B hml hnt hv
  obtain ⟨rfl, hE, hsz, hP, hD0⟩ := hv
  have hx := B.exec
  have hb := B.bytes
  have hr := B.returns
  have hts := atoms_spec (ws := wsX2_serve) B.pre
  have hown : s.vm.findClass RX2 = some m.cls := findClass_of_methodNamed B.named
  have hlocks := B.notSynchronized
  have hK := hE.1.1
  have hinX1 : ∀ w ∈ u_ws RX1 TX1 4, w ∈ wsX2_serve := by decide +kernel
  have hinX2 : ∀ w ∈ u_ws RX2 TX2 9, w ∈ wsX2_serve := by decide +kernel
  subst hsz
  have hD := hD0.self (sz := s.heap.size)
  have hAlo : ∀ q, va_A (xW cI cR cS x0 b ra sb hd ol σ) s.heap.size q → lo ≤ q := eA_lo hD0 hlo
  generalize hAe : va_A (xW cI cR cS x0 b ra sb hd ol σ) s.heap.size = A at hD hAlo ⊢
  have hA : ∀ q : Nat, s.heap.size ≤ q → A q := fun q h => by rw [← hAe]; exact Or.inr h
  have hS : va_S A s.heap s.heap [] := va_S.rf
  have hP : va_P dD vwCl (xW cI cR cS x0 b ra sb hd ol σ) s.heap := hP
  obtain ⟨i_now, i_n, i_tk, i_k, i_lt, i_row, i_cp, i_srv⟩ := id hI
  have hl := lv_entry ([.ref x0, .int f, .int e]) (n := 4) (Nat.le_of_ble_eq_true rfl)
  rw [lg_entry_eq]
  generalize (lg_sl ([.ref x0, .int f, .int e]) ++ List.replicate (4 - (lg_sl ([.ref x0, .int f, .int e])).length) Slot.unset).toArray = ls at hl ⊢
  have hl : lv_has ls 4 [(0, .ref x0), (1, .int f), (2, .int e)] := hl
  refine lv_iload_n hx hb dX2_serve_0 rfl (lv_at hl 1 rfl) ?_
  refine lv_iload_n hx hb dX2_serve_1 rfl (lv_at hl 2 rfl) ?_
  refine nx_callv (vx_runS (As := [.int f, .int e]) (rest := []) ⟨hx, hb, hml, hown, hts⟩ (c_X2_requirePair l dD cI cR cS lo hfl f e) (va_cwS 2 hts gX2_serve_X2_requirePair rfl rfl rfl (by decide +kernel) ⟨Nat.le_of_ble_eq_true rfl, Nat.le_of_ble_eq_true rfl⟩) (ePreS hE va_S.rf trivial) rfl rfl hl.1 rfl (lv_room (Nat.le_of_ble_eq_true rfl)) dX2_serve_2 ⟨Nat.le_of_ble_eq_true rfl, Nat.le_of_ble_eq_true rfl⟩) (fun E ce q9 H1 hX9 hz9 hk9 hc9 hv9 hf9 => vx_out (fun x hx => (hnt x hx).elim) hlocks hc9 hv9 hf9 (fun t9 ht9 _ => ⟨Or.inl ⟨hX9.1, hX9.2⟩, by rw [ht9]; exact hz9, fun q hq _ => by rw [ht9]; exact hk9 q hq⟩) (fun z hz => absurd hz List.not_mem_nil) (by decide) (by decide)) (fun hr_2 => ?_)
  refine lv_aload_n hx hb dX2_serve_5 rfl (lv_at hl 0 rfl) ?_
  refine va_get (D := dD) (ci := 2) (v := .int (nI (s_k σ))) (C := RX2) (T := TX2) (N := 9) hx hb hts hinX2 hown hK hP 0 rfl rfl 8 (by decide) (hts (.fieldLink RX2 114 "FeatureStore" "servingCount" "I") (by decide +kernel)) (fun _ h9 => h9) rfl dX2_serve_6 ?_
  refine lv_sipush (v := nI 200) hx hb dX2_serve_9 (by decide +kernel) ?_
  refine nv_lt (tgt := 25) hx hb dX2_serve_12 (by decide) (by omega) (by omega) (fun c_12 => ?_) (fun c_12 => ?_)
  · obtain ⟨fn, hfn1, hfn2, rfl⟩ := rg_of (by decide) (by decide) (hr_2.1)
    obtain ⟨en, hen1, hen2, rfl⟩ := rg_of (by decide) (by decide) (hr_2.2)
    refine lv_aload_n hx hb dX2_serve_25 rfl (lv_at hl 0 rfl) ?_
    refine lv_iload_n hx hb dX2_serve_26 rfl (lv_at hl 1 rfl) ?_
    refine lv_iload_n hx hb dX2_serve_27 rfl (lv_at hl 2 rfl) ?_
    refine vp_callSi (va_Run.run (va_runV (As := [.int (nI fn), .int (nI en)]) (rest := []) ⟨hx, hb, hml, hown, hts⟩ (c_X2_tell l dD cI cR cS lo x0 b ra sb hd ol σ hI (fn) (en) (by omega) (by omega)) (cwV 2 hts gX2_serve_X2_tell rfl rfl rfl (by decide +kernel) ⟨Nat.le_of_ble_eq_true rfl, Nat.le_of_ble_eq_true rfl⟩) (ePreV hE va_S.rf hP (k := 0) rfl rfl hP) rfl rfl hl.1 rfl (lv_room (Nat.le_of_ble_eq_true rfl)) dX2_serve_28 ⟨Nat.le_of_ble_eq_true rfl, Nat.le_of_ble_eq_true rfl⟩)) (fun r_28 hr_28 => ?_)
    subst hr_28
    refine lv_istore_n (lv' := [(3, .int (eN (q_fr σ (s_cp σ (10 * fn + en)) (s_now σ)))), (0, .ref x0), (1, .int (nI fn)), (2, .int (nI en))]) hx hb dX2_serve_31 rfl hl (by decide) rfl (fun ls hl => ?_)
    refine lv_aload_n hx hb dX2_serve_32 rfl (lv_at hl 1 rfl) ?_
    refine va_get (D := dD) (ci := 2) (v := .ref (b 4)) (C := RX2) (T := TX2) (N := 9) hx hb hts hinX2 hown hK hP 0 rfl rfl 7 (by decide) (hts (.fieldLink RX2 27 "FeatureStore" "servings" "[LFeatureStore$Serving;") (by decide +kernel)) (fun _ h9 => h9) rfl dX2_serve_33 ?_
    refine lv_aload_n hx hb dX2_serve_36 rfl (lv_at hl 1 rfl) ?_
    refine va_get (D := dD) (ci := 2) (v := .int (nI (s_k σ))) (C := RX2) (T := TX2) (N := 9) hx hb hts hinX2 hown hK hP 0 rfl rfl 8 (by decide) (hts (.fieldLink RX2 114 "FeatureStore" "servingCount" "I") (by decide +kernel)) (fun _ h9 => h9) rfl dX2_serve_37 ?_
    refine va_new (ci := 1) (fs := [.int 0, .int 0, .int 0, .int 0]) (C := RX1) (T := TX1) (N := 4) hx hb hts hinX1 tyX1 tyX1_ok hown (hts (.classLink RX2 25 RX1) (by decide +kernel)) (hts (.instantiable RX1 4) (by decide +kernel)) (hts (.initialized RX1) (by decide +kernel)) hK hP hD hS hA rfl (fun j hj => by rcases (show j = 0 ∨ j = 1 ∨ j = 2 ∨ j = 3 by omega) with rfl | rfl | rfl | rfl <;> rfl) (Nat.le_of_ble_eq_true rfl) (Nat.le_of_ble_eq_true rfl) dX2_serve_40 (fun q5 H hP hD hS => ?_)
    have hP : va_P dD vwCl ((xW cI cR cS x0 b ra sb hd ol σ) ++ [(q5, .inr (1, [.int 0, .int 0, .int 0, .int 0]))]) H := hP
    have hD : va_D A ((xW cI cR cS x0 b ra sb hd ol σ) ++ [(q5, .inr (1, [.int 0, .int 0, .int 0, .int 0]))]) := hD
    have hAH : ∀ q : Nat, H.size ≤ q → A q := fun q h => hA q (Nat.le_trans hS.1 h)
    have hFc := fr_freeR (w1 := [(q5, .inr (1, [.int 0, .int 0, .int 0, .int 0]))]) hD hAH
    refine lv_dup hx hb dX2_serve_43 rfl ?_
    refine lv_iload_n hx hb dX2_serve_44 rfl (lv_at hl 2 rfl) ?_
    refine lv_iload_n hx hb dX2_serve_45 rfl (lv_at hl 3 rfl) ?_
    refine lv_aload_n hx hb dX2_serve_46 rfl (lv_at hl 1 rfl) ?_
    refine va_get (D := dD) (ci := 2) (v := .int (nI (s_now σ))) (C := RX2) (T := TX2) (N := 9) hx hb hts hinX2 hown hK hP 0 rfl rfl 0 (by decide) (hts (.fieldLink RX2 35 "FeatureStore" "now" "I") (by decide +kernel)) (fun _ h9 => h9) rfl dX2_serve_47 ?_
    refine lv_iload_n hx hb dX2_serve_50 rfl (lv_at hl 0 rfl) ?_
    refine va_callv (va_runI (As := [.int (nI fn), .int (nI en), .int (nI (s_now σ)), .int (eN (q_fr σ (s_cp σ (10 * fn + en)) (s_now σ)))]) (rest := [.ref q5, .int (nI (s_k σ)), .ref (b 4)]) ⟨hx, hb, hml, hown, hts⟩ (c_X1_init l dD cI cR cS lo H.size q5 (nI fn) (nI en) (nI (s_now σ)) (eN (q_fr σ (s_cp σ (10 * fn + en)) (s_now σ)))) (cwI 4 hts gX2_serve_X1_init rfl rfl rfl (hts (.initialized RX1) (by decide +kernel)) (hts (.methodLink RX2 119 yX1_init) (by decide +kernel)) (hts (.instanceMethod yX1_init) (by decide +kernel)) rfl (by decide +kernel) ⟨Nat.le_of_ble_eq_true rfl, Nat.le_of_ble_eq_true rfl⟩) (ePreS hE (hS.mono hAlo) ⟨rfl, vP_app2 hP, vD_mono (vD_app2 hD) (fun _ _ => trivial)⟩) rfl rfl hl.1 rfl (lv_room (Nat.le_of_ble_eq_true rfl)) dX2_serve_51 ⟨Nat.le_of_ble_eq_true rfl, Nat.le_of_ble_eq_true rfl⟩) hS (fun q _ h => hFc q h) hFc (fun u_ t_ H1 locs ht_ hvm_ hw_ hB_ hz_ hk_ hS => ?_)
    obtain ⟨hP, hD⟩ := fr_joinR (w1' := [(q5, .inr (1, [.int (nI fn), .int (nI en), .int (nI (s_now σ)), .int (eN (q_fr σ (s_cp σ (10 * fn + en)) (s_now σ)))]))]) hP hD hAH hk_ (by rw [← ht_]; exact hB_) (va_D_fst (vD_app2 hD).self rfl)
    have hAH : ∀ q : Nat, H1.size ≤ q → A q := fun q h => hA q (Nat.le_trans hS.1 h)
    have hPn := vP_perm (xNewS (by omega) (by omega)) hP
    have hDn := vD_perm (xNewS (by omega) (by omega)) hD
    obtain ⟨sb', hsb⟩ : ∃ z, z = uN sb (s_k σ) q5 := ⟨_, rfl⟩
    rw [← hsb] at hPn hDn
    have hq5 : sb' (s_k σ) = q5 := by rw [hsb, uN_s]
    clear hFc
    subst hq5
    have hP := hPn
    have hD := hDn
    refine nq_aast (q0 := 5) (t0 := 2) (qk := s_n σ + s_k σ + 6) (ci := 1) (r := (RX1, TX1, 4)) (fun j => if j < s_k σ then some (sb' j) else none) (fun j => if j < s_k σ + 1 then some (sb' j) else none) hx hb hK hP hD hS rfl rfl (pool_srv (Nat.lt_succ_self _)) rfl (by omega) (by decide) upP dX2_serve_54 (fun H locs hP hD hS => ?_)
    have hP : va_P dD vwCl ((x0, .inr (2, [.int (nI (s_now σ)), .ref (b 0), .ref (b 1), .int (nI (s_n σ)), .ref (b 2), .ref (b 3), .int (nI (s_tk σ)), .ref (b 4), .int (nI (s_k σ))])) :: (b 0, .inl (cI, 6, .inl (fun j => nI (s_lt σ j)))) :: (b 1, .inl (cR, 200, .inr (.inr (.inr (.inr (fun j => if j < s_n σ then some (ra j) else none)))))) :: (b 2, .inl (cR, 60, .inr (.inr (.inr (.inr (fun j => rfN ra (hd j))))))) :: (b 3, .inl (cR, 60, .inr (.inr (.inr (.inr (fun j => rfN ra (s_cp σ j))))))) :: (b 4, .inl (cS, 200, .inr (.inr (.inr (.inr (fun j => if j < s_k σ + 1 then some ((sb') j) else none)))))) :: (poolE ra sb' ol (g_serve σ (10 * fn + en)) (s_n σ) (s_k σ + 1))) H := hP
    have hD : va_D A ((x0, .inr (2, [.int (nI (s_now σ)), .ref (b 0), .ref (b 1), .int (nI (s_n σ)), .ref (b 2), .ref (b 3), .int (nI (s_tk σ)), .ref (b 4), .int (nI (s_k σ))])) :: (b 0, .inl (cI, 6, .inl (fun j => nI (s_lt σ j)))) :: (b 1, .inl (cR, 200, .inr (.inr (.inr (.inr (fun j => if j < s_n σ then some (ra j) else none)))))) :: (b 2, .inl (cR, 60, .inr (.inr (.inr (.inr (fun j => rfN ra (hd j))))))) :: (b 3, .inl (cR, 60, .inr (.inr (.inr (.inr (fun j => rfN ra (s_cp σ j))))))) :: (b 4, .inl (cS, 200, .inr (.inr (.inr (.inr (fun j => if j < s_k σ + 1 then some ((sb') j) else none)))))) :: (poolE ra sb' ol (g_serve σ (10 * fn + en)) (s_n σ) (s_k σ + 1))) := hD
    refine lv_aload_n hx hb dX2_serve_55 rfl (lv_at hl 1 rfl) ?_
    refine lv_dup hx hb dX2_serve_56 rfl ?_
    refine va_get (D := dD) (ci := 2) (v := .int (nI (s_k σ))) (C := RX2) (T := TX2) (N := 9) hx hb hts hinX2 hown hK hP 0 rfl rfl 8 (by decide) (hts (.fieldLink RX2 114 "FeatureStore" "servingCount" "I") (by decide +kernel)) (fun _ h9 => h9) rfl dX2_serve_57 ?_
    refine lv_iconst (v := nI 1) hx hb dX2_serve_60 (by decide +kernel) ?_
    refine nv_iadd hx hb dX2_serve_61 ?_
    refine va_put (D := dD) (ci := 2) (v := .int (nI ((s_k σ) + 1))) (ty := .int) (C := RX2) (T := TX2) (N := 9) hx hb hts hinX2 tyX2 tyX2_ok nmX2 hown hK hP hD hS 0 rfl rfl 8 (by decide) (hts (.fieldLink RX2 114 "FeatureStore" "servingCount" "I") (by decide +kernel)) (fun _ h9 => h9) rfl (by decide +kernel) rfl rfl (Nat.le_of_ble_eq_true rfl) dX2_serve_62 (fun H locs hP hD hS => ?_)
    have hP : va_P dD vwCl ((x0, .inr (2, [.int (nI (s_now σ)), .ref (b 0), .ref (b 1), .int (nI (s_n σ)), .ref (b 2), .ref (b 3), .int (nI (s_tk σ)), .ref (b 4), .int (nI ((s_k σ) + 1))])) :: (b 0, .inl (cI, 6, .inl (fun j => nI (s_lt σ j)))) :: (b 1, .inl (cR, 200, .inr (.inr (.inr (.inr (fun j => if j < s_n σ then some (ra j) else none)))))) :: (b 2, .inl (cR, 60, .inr (.inr (.inr (.inr (fun j => rfN ra (hd j))))))) :: (b 3, .inl (cR, 60, .inr (.inr (.inr (.inr (fun j => rfN ra (s_cp σ j))))))) :: (b 4, .inl (cS, 200, .inr (.inr (.inr (.inr (fun j => if j < s_k σ + 1 then some ((sb') j) else none)))))) :: (poolE ra sb' ol (g_serve σ (10 * fn + en)) (s_n σ) (s_k σ + 1))) H := hP
    have hD : va_D A ((x0, .inr (2, [.int (nI (s_now σ)), .ref (b 0), .ref (b 1), .int (nI (s_n σ)), .ref (b 2), .ref (b 3), .int (nI (s_tk σ)), .ref (b 4), .int (nI ((s_k σ) + 1))])) :: (b 0, .inl (cI, 6, .inl (fun j => nI (s_lt σ j)))) :: (b 1, .inl (cR, 200, .inr (.inr (.inr (.inr (fun j => if j < s_n σ then some (ra j) else none)))))) :: (b 2, .inl (cR, 60, .inr (.inr (.inr (.inr (fun j => rfN ra (hd j))))))) :: (b 3, .inl (cR, 60, .inr (.inr (.inr (.inr (fun j => rfN ra (s_cp σ j))))))) :: (b 4, .inl (cS, 200, .inr (.inr (.inr (.inr (fun j => if j < s_k σ + 1 then some ((sb') j) else none)))))) :: (poolE ra sb' ol (g_serve σ (10 * fn + en)) (s_n σ) (s_k σ + 1))) := hD
    refine lv_iload_n hx hb dX2_serve_65 rfl (lv_at hl 0 rfl) ?_
    exact vx_ret (W.widen (k := 3) (n := 18) (by decide) (by decide) (W.iret (v := eN (q_fr σ (s_cp σ (10 * fn + en)) (s_now σ))) hx hb hr (fun u9 hu9 hW => ⟨⟨eN (q_fr σ (s_cp σ (10 * fn + en)) (s_now σ)), ((g_serve σ (10 * fn + en)), sb'), rfl, ⟨⟨hr_2, by omega⟩, by rw [plN, cl_nI (by omega), cl_nI (by omega)], by rw [plN, cl_nI (by omega), cl_nI (by omega)]⟩, by have h9 := hP; rw [← hu9] at h9; exact ⟨h9, hAe ▸ hD⟩⟩, hS.F hu9⟩) hS.2.2 dX2_serve_66))
  · exact nx_throw hx hb hfl hown hml hnt hlocks hts (by decide +kernel) (by decide +kernel) bad_ise ot_ise hE hE.1.2.2.2.1 hl dX2_serve_15 dX2_serve_18 dX2_serve_19 dX2_serve_21 dX2_serve_24 (Nat.le_of_ble_eq_true rfl) (Nat.le_of_ble_eq_true rfl) (Nat.le_of_ble_eq_true rfl) (Nat.le_of_ble_eq_true rfl) (Or.inr ⟨rfl, hr_2, by omega⟩) (by decide) (by decide)
