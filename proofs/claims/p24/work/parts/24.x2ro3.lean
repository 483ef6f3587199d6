/-! the class: windows, tiles, revised, skew (laid by wip/whole/gen/x2ro3.py) -/
theorem c_mb_mono {x y T : Nat} (h : x ≤ y) : c_mb x T ≤ c_mb y T := Nat.div_le_div_right (by omega)
theorem c_sum_all {σ : St} (hI : sI σ) (q : Nat) : c_sum σ 0 10000 (chn σ q (s_n σ)) ≤ 20000000 := by
  rw [c_sum_sum]
  have h := q_sum_le hI q 0 10000 (s_n σ) (Nat.le_refl _)
  have h2 := hI.2.1
  omega

set_option maxHeartbeats 4000000 in
set_option maxRecDepth 100000 in
theorem c_X2_window (l : Launch) (dD : va_G) (cI cR cS : ClassId) (lo : Nat) (hfl : l.stackTraces = false) (x0 : Nat) (b ra sb hd ol : Nat → Nat) (σ : St) (hI : sI σ) (hX : xI σ hd ol) (f e x y : Int32) : vx_Met l yX2_window wsX2_window ({ frames := 8, cells := 4, slots := 24, locals := 125 }) (ePc dD cI cR cS lo [.ref x0, .int f, .int e, .int x, .int y] (fun H => va_P dD vwCl (xW cI cR cS x0 b ra sb hd ol σ) H)) (vp_Si (fun r => (okP f e ∧ rg x 0 10000 ∧ rg y (cl x) 10000) ∧ r = nI (q_sum σ (plN f e) (cl x) (cl y) (s_n σ)))) (eX (fun E => E = nIAE ∧ ¬ (okP f e ∧ rg x 0 10000 ∧ rg y (cl x) 10000))) 4 24 (fun _ => False) := by
  refine vx_ofW (cc := cX2_window) (maxL := 7) (ret := (some .int)) (by decide) rfl ?_
  intro p e_ s m args below meth c s₁ B hml hnt hv
  obtain ⟨rfl, hE, hP⟩ := hv
  have hx := B.exec
  have hb := B.bytes
  have hr := B.returns
  have hts := atoms_spec (ws := wsX2_window) B.pre
  have hown : s.vm.findClass RX2 = some m.cls := findClass_of_methodNamed B.named
  have hlocks := B.notSynchronized
  have hK := hE.1.1
  have hinX0 : ∀ w ∈ u_ws RX0 TX0 7, w ∈ wsX2_window := by decide +kernel
  have hinX2 : ∀ w ∈ u_ws RX2 TX2 9, w ∈ wsX2_window := by decide +kernel
  obtain ⟨i_now, i_n, i_tk, i_k, i_lt, i_row, i_cp, i_srv⟩ := id hI
  have hl := lv_entry ([.ref x0, .int f, .int e, .int x, .int y]) (n := 7) (Nat.le_of_ble_eq_true rfl)
  rw [lg_entry_eq]
  generalize (lg_sl ([.ref x0, .int f, .int e, .int x, .int y]) ++ List.replicate (7 - (lg_sl ([.ref x0, .int f, .int e, .int x, .int y])).length) Slot.unset).toArray = ls at hl ⊢
  have hl : lv_has ls 7 [(0, .ref x0), (1, .int f), (2, .int e), (3, .int x), (4, .int y)] := hl
  refine lv_iload_n hx hb dX2_window_0 rfl (lv_at hl 1 rfl) ?_
  refine lv_iload_n hx hb dX2_window_1 rfl (lv_at hl 2 rfl) ?_
  refine nx_callv (vx_runS (As := [.int f, .int e]) (rest := []) ⟨hx, hb, hml, hown, hts⟩ (c_X2_requirePair l dD cI cR cS lo hfl f e) (va_cwS 2 hts gX2_window_X2_requirePair rfl rfl rfl (by decide +kernel) ⟨Nat.le_of_ble_eq_true rfl, Nat.le_of_ble_eq_true rfl⟩) (ePreS hE va_S.rf trivial) rfl rfl hl.1 rfl (lv_room (Nat.le_of_ble_eq_true rfl)) dX2_window_2 ⟨Nat.le_of_ble_eq_true rfl, Nat.le_of_ble_eq_true rfl⟩) (fun E ce q9 H1 hX9 hz9 hk9 hc9 hv9 hf9 => vx_out (fun x hx => (hnt x hx).elim) hlocks hc9 hv9 hf9 (fun t9 ht9 _ => ⟨⟨hX9.1, fun h => hX9.2 h.1⟩, by rw [ht9]; exact hz9, fun q hq _ => by rw [ht9]; exact hk9 q hq⟩) (fun z hz => absurd hz List.not_mem_nil) (by decide) (by decide)) (fun hr_2 => ?_)
  refine lv_iload_n hx hb dX2_window_5 rfl (lv_at hl 3 rfl) ?_
  refine lv_iconst (v := nI 0) hx hb dX2_window_6 (by decide +kernel) ?_
  refine lv_sipush (v := nI 10000) hx hb dX2_window_7 (by decide +kernel) ?_
  refine nx_callv (vx_runS (As := [.int x, .int (nI 0), .int (nI 10000)]) (rest := []) ⟨hx, hb, hml, hown, hts⟩ (c_X2_requireRange l dD cI cR cS lo hfl x (nI 0) (nI 10000)) (va_cwS 3 hts gX2_window_X2_requireRange rfl rfl rfl (by decide +kernel) ⟨Nat.le_of_ble_eq_true rfl, Nat.le_of_ble_eq_true rfl⟩) (ePreS hE va_S.rf trivial) rfl rfl hl.1 rfl (lv_room (Nat.le_of_ble_eq_true rfl)) dX2_window_10 ⟨Nat.le_of_ble_eq_true rfl, Nat.le_of_ble_eq_true rfl⟩) (fun E ce q9 H1 hX9 hz9 hk9 hc9 hv9 hf9 => vx_out (fun x hx => (hnt x hx).elim) hlocks hc9 hv9 hf9 (fun t9 ht9 _ => ⟨⟨hX9.1, fun h => hX9.2 h.2.1⟩, by rw [ht9]; exact hz9, fun q hq _ => by rw [ht9]; exact hk9 q hq⟩) (fun z hz => absurd hz List.not_mem_nil) (by decide) (by decide)) (fun hr_10 => ?_)
  refine lv_iload hx hb dX2_window_13 (lv_at hl 4 rfl) ?_
  refine lv_iload_n hx hb dX2_window_15 rfl (lv_at hl 3 rfl) ?_
  refine lv_sipush (v := nI 10000) hx hb dX2_window_16 (by decide +kernel) ?_
  refine nx_callv (vx_runS (As := [.int y, .int x, .int (nI 10000)]) (rest := []) ⟨hx, hb, hml, hown, hts⟩ (c_X2_requireRange l dD cI cR cS lo hfl y x (nI 10000)) (va_cwS 3 hts gX2_window_X2_requireRange rfl rfl rfl (by decide +kernel) ⟨Nat.le_of_ble_eq_true rfl, Nat.le_of_ble_eq_true rfl⟩) (ePreS hE va_S.rf trivial) rfl rfl hl.1 rfl (lv_room (Nat.le_of_ble_eq_true rfl)) dX2_window_19 ⟨Nat.le_of_ble_eq_true rfl, Nat.le_of_ble_eq_true rfl⟩) (fun E ce q9 H1 hX9 hz9 hk9 hc9 hv9 hf9 => vx_out (fun x hx => (hnt x hx).elim) hlocks hc9 hv9 hf9 (fun t9 ht9 _ => ⟨⟨hX9.1, fun h => hX9.2 (by obtain ⟨xn, hxn1, hxn2, rfl⟩ := rg_of (by decide) (by decide) hr_10; have h9 := h.2.2; rw [cl_nI (by omega)] at h9; exact h9)⟩, by rw [ht9]; exact hz9, fun q hq _ => by rw [ht9]; exact hk9 q hq⟩) (fun z hz => absurd hz List.not_mem_nil) (by decide) (by decide)) (fun hr_19 => ?_)
  refine vx_ret (W.widen (k := 4) (n := 24) (by decide) (by decide) ?_)
  obtain ⟨fn, hfn1, hfn2, rfl⟩ := rg_of (by decide) (by decide) (hr_2.1)
  obtain ⟨en, hen1, hen2, rfl⟩ := rg_of (by decide) (by decide) (hr_2.2)
  obtain ⟨xn, hxn1, hxn2, rfl⟩ := rg_of (by decide) (by decide) (hr_10)
  obtain ⟨yn, hyn1, hyn2, rfl⟩ := rg_of (by omega) (by decide) (hr_19)
  refine lv_iconst (v := nI 0) hx hb dX2_window_22 (by decide +kernel) ?_
  refine lv_istore (lv' := [(5, .int (nI 0)), (0, .ref x0), (1, .int (nI fn)), (2, .int (nI en)), (3, .int (nI xn)), (4, .int (nI yn))]) hx hb dX2_window_23 hl (by decide) rfl (fun ls hl => ?_)
  refine lv_aload_n hx hb dX2_window_25 rfl (lv_at hl 1 rfl) ?_
  refine va_get (D := dD) (ci := 2) (v := .ref (b 2)) (C := RX2) (T := TX2) (N := 9) hx hb hts hinX2 hown hK hP 0 rfl rfl 4 (by decide) (hts (.fieldLink RX2 19 "FeatureStore" "latest" "[LFeatureStore$Row;") (by decide +kernel)) (fun _ h9 => h9) rfl dX2_window_26 ?_
  refine lv_iload_n hx hb dX2_window_29 rfl (lv_at hl 2 rfl) ?_
  refine lv_iload_n hx hb dX2_window_30 rfl (lv_at hl 3 rfl) ?_
  refine vp_callSi (va_Run.run (va_runS (As := [.int (nI fn), .int (nI en)]) (rest := [.ref (b 2)]) ⟨hx, hb, hml, hown, hts⟩ (c_X2_placeOf l dD cI cR cS lo fn en) (va_cwS 2 hts gX2_window_X2_placeOf rfl rfl rfl (by decide +kernel) ⟨Nat.le_of_ble_eq_true rfl, Nat.le_of_ble_eq_true rfl⟩) (ePreS hE va_S.rf trivial) rfl rfl hl.1 rfl (lv_room (Nat.le_of_ble_eq_true rfl)) dX2_window_31 ⟨Nat.le_of_ble_eq_true rfl, Nat.le_of_ble_eq_true rfl⟩)) (fun r_31 hr_31 => ?_)
  subst hr_31
  refine nq_aald (q0 := 3) (t0 := 1) (fun j => rfN ra (hd j)) hx hb hK hP rfl rfl (by omega) (by decide) dX2_window_34 ?_
  refine nq_astore (lv' := [(6, va_rf (rfN ra (hd (10 * fn + en)))), (5, .int (nI 0)), (0, .ref x0), (1, .int (nI fn)), (2, .int (nI en)), (3, .int (nI xn)), (4, .int (nI yn))]) hx hb dX2_window_35 hl (by decide) rfl (fun ls hl => ?_)
  have hlp : ∀ (li : List Nat) (o sm : Nat), seg ol o li → (∀ y ∈ li, y < s_n σ ∧ s_pr σ y = (10 * fn + en)) → sm + c_sum σ xn yn li = q_sum σ (10 * fn + en) xn yn (s_n σ) → ∀ (ls : Array Slot), lv_has ls 7 [(0, .ref x0), (1, .int (nI fn)), (2, .int (nI en)), (3, .int (nI xn)), (4, .int (nI yn)), (5, .int (nI sm)), (6, va_rf (rfN ra o))] → W p l e_ (headSpec wsX2_window ({ frames := 8, cells := 4, slots := 24, locals := 125 })).room s m (([.ref x0, .int (nI fn), .int (nI en), .int (nI xn), .int (nI yn)] : List Value).toArray) below meth c s.heap [] 4 24 (MQ below (vp_Si (fun r => (okP (nI fn) (nI en) ∧ rg (nI xn) 0 10000 ∧ rg (nI yn) (cl (nI xn)) 10000) ∧ r = nI (q_sum σ (plN (nI fn) (nI en)) (cl (nI xn)) (cl (nI yn)) (s_n σ)))) (([.ref x0, .int (nI fn), .int (nI en), .int (nI xn), .int (nI yn)] : List Value).toArray) s 4 24 (fun _ => False)) (F0 m 37 ls []) := by
    intro li
    induction li with
    | nil =>
      intro o sm hs_ hm_ hf_ ls hl
      have ho_ : o = 0 := hs_
      subst ho_
      have hl : lv_has ls 7 [(0, .ref x0), (1, .int (nI fn)), (2, .int (nI en)), (3, .int (nI xn)), (4, .int (nI yn)), (5, .int (nI sm)), (6, .null)] := hl
      refine lv_aloadN hx hb dX2_window_37 (lv_at hl 6 rfl) ?_
      refine lv_ifnullN (tgt := 81) hx hb dX2_window_39 (by decide) ?_
      refine lv_iload hx hb dX2_window_81 (lv_at hl 5 rfl) ?_
      exact W.iret (v := nI sm) hx hb hr (fun u9 hu9 hW => ⟨nI sm, rfl, ⟨⟨hr_2, hr_10, by rw [cl_nI (n := xn) (by omega)]; exact hr_19⟩, by rw [plN, cl_nI (by omega), cl_nI (by omega), cl_nI (by omega), cl_nI (by omega), ← hf_]; rfl⟩, hu9⟩) (fun q h => absurd h List.not_mem_nil) dX2_window_83
    | cons x li ih =>
      intro o sm hs_ hm_ hf_ ls hl
      have ho_ : o = x + 1 := hs_.1
      subst ho_
      obtain ⟨hz_x, hz_q⟩ := hm_ x List.mem_cons_self
      obtain ⟨hz_1, hz_2, hz_3, hz_4⟩ := i_row x hz_x
      have hR := xRow hP hz_x
      have hl : lv_has ls 7 [(0, .ref x0), (1, .int (nI fn)), (2, .int (nI en)), (3, .int (nI xn)), (4, .int (nI yn)), (5, .int (nI sm)), (6, .ref (ra x))] := hl
      refine lv_aload hx hb dX2_window_37 (lv_at hl 6 rfl) ?_
      refine lv_ifnull hx hb dX2_window_39 ?_
      refine lv_aload hx hb dX2_window_42 (lv_at hl 6 rfl) ?_
      refine va_get (D := dD) (ci := 0) (v := .int (nI (s_ev σ x))) (C := RX0) (T := TX0) (N := 7) hx hb hts hinX0 hown hK hR 0 rfl rfl 3 (by decide) (hts (.fieldLink RX2 76 "FeatureStore$Row" "event" "I") (by decide +kernel)) (fun _ h9 => h9) rfl dX2_window_44 ?_
      refine lv_iload_n hx hb dX2_window_47 rfl (lv_at hl 3 rfl) ?_
      refine nv_lt (tgt := 71) hx hb dX2_window_48 (by decide) (by omega) (by omega) (fun c_48 => ?_) (fun c_48 => ?_)
      · refine lv_aload hx hb dX2_window_71 (lv_at hl 6 rfl) ?_
        refine va_get (D := dD) (ci := 0) (v := va_rf (rfN ra (ol x))) (C := RX0) (T := TX0) (N := 7) hx hb hts hinX0 hown hK hR 0 rfl rfl 6 (by decide) (hts (.fieldLink RX2 87 "FeatureStore$Row" "older" "LFeatureStore$Row;") (by decide +kernel)) (fun _ h9 => h9) rfl dX2_window_73 ?_
        refine nq_astore (lv' := [(6, va_rf (rfN ra (ol x))), (0, .ref x0), (1, .int (nI fn)), (2, .int (nI en)), (3, .int (nI xn)), (4, .int (nI yn)), (5, .int (nI sm))]) hx hb dX2_window_76 hl (by decide) rfl (fun ls hl => ?_)
        refine lv_goto (tgt := 37) hx hb dX2_window_78 (by decide) ?_
        exact ih (ol x) (sm) hs_.2 (fun y hy => hm_ y (List.mem_cons_of_mem _ hy)) (by rw [← hf_]; simp only [c_sum]; rw [if_neg (by omega)]; omega) ls (lv_sub hl [1, 2, 3, 4, 5, 6, 0] rfl)
      · refine lv_aload hx hb dX2_window_51 (lv_at hl 6 rfl) ?_
        refine va_get (D := dD) (ci := 0) (v := .int (nI (s_ev σ x))) (C := RX0) (T := TX0) (N := 7) hx hb hts hinX0 hown hK hR 0 rfl rfl 3 (by decide) (hts (.fieldLink RX2 76 "FeatureStore$Row" "event" "I") (by decide +kernel)) (fun _ h9 => h9) rfl dX2_window_53 ?_
        refine lv_iload hx hb dX2_window_56 (lv_at hl 4 rfl) ?_
        refine nv_gt (tgt := 71) hx hb dX2_window_58 (by decide) (by omega) (by omega) (fun c_58 => ?_) (fun c_58 => ?_)
        · refine lv_aload hx hb dX2_window_71 (lv_at hl 6 rfl) ?_
          refine va_get (D := dD) (ci := 0) (v := va_rf (rfN ra (ol x))) (C := RX0) (T := TX0) (N := 7) hx hb hts hinX0 hown hK hR 0 rfl rfl 6 (by decide) (hts (.fieldLink RX2 87 "FeatureStore$Row" "older" "LFeatureStore$Row;") (by decide +kernel)) (fun _ h9 => h9) rfl dX2_window_73 ?_
          refine nq_astore (lv' := [(6, va_rf (rfN ra (ol x))), (0, .ref x0), (1, .int (nI fn)), (2, .int (nI en)), (3, .int (nI xn)), (4, .int (nI yn)), (5, .int (nI sm))]) hx hb dX2_window_76 hl (by decide) rfl (fun ls hl => ?_)
          refine lv_goto (tgt := 37) hx hb dX2_window_78 (by decide) ?_
          exact ih (ol x) (sm) hs_.2 (fun y hy => hm_ y (List.mem_cons_of_mem _ hy)) (by rw [← hf_]; simp only [c_sum]; rw [if_neg (by omega)]; omega) ls (lv_sub hl [1, 2, 3, 4, 5, 6, 0] rfl)
        · refine lv_iload hx hb dX2_window_61 (lv_at hl 5 rfl) ?_
          refine lv_aload hx hb dX2_window_63 (lv_at hl 6 rfl) ?_
          refine va_get (D := dD) (ci := 0) (v := .int (nI (s_vl σ x))) (C := RX0) (T := TX0) (N := 7) hx hb hts hinX0 hown hK hR 0 rfl rfl 5 (by decide) (hts (.fieldLink RX2 70 "FeatureStore$Row" "value" "I") (by decide +kernel)) (fun _ h9 => h9) rfl dX2_window_65 ?_
          refine nv_iadd hx hb dX2_window_68 ?_
          refine lv_istore (lv' := [(5, .int (nI (sm + (s_vl σ x)))), (0, .ref x0), (1, .int (nI fn)), (2, .int (nI en)), (3, .int (nI xn)), (4, .int (nI yn)), (6, .ref (ra x))]) hx hb dX2_window_69 hl (by decide) rfl (fun ls hl => ?_)
          refine lv_aload hx hb dX2_window_71 (lv_at hl 6 rfl) ?_
          refine va_get (D := dD) (ci := 0) (v := va_rf (rfN ra (ol x))) (C := RX0) (T := TX0) (N := 7) hx hb hts hinX0 hown hK hR 0 rfl rfl 6 (by decide) (hts (.fieldLink RX2 87 "FeatureStore$Row" "older" "LFeatureStore$Row;") (by decide +kernel)) (fun _ h9 => h9) rfl dX2_window_73 ?_
          refine nq_astore (lv' := [(6, va_rf (rfN ra (ol x))), (5, .int (nI (sm + (s_vl σ x)))), (0, .ref x0), (1, .int (nI fn)), (2, .int (nI en)), (3, .int (nI xn)), (4, .int (nI yn))]) hx hb dX2_window_76 hl (by decide) rfl (fun ls hl => ?_)
          refine lv_goto (tgt := 37) hx hb dX2_window_78 (by decide) ?_
          exact ih (ol x) (sm + (s_vl σ x)) hs_.2 (fun y hy => hm_ y (List.mem_cons_of_mem _ hy)) (by rw [← hf_]; simp only [c_sum]; rw [if_pos (by omega)]; omega) ls (lv_sub hl [2, 3, 4, 5, 6, 1, 0] rfl)
  exact hlp (chn σ (10 * fn + en) (s_n σ)) (hd (10 * fn + en)) 0 (hX (10 * fn + en) (by omega)) (fun y hy => mem_chn.mp hy) (by rw [Nat.zero_add]; exact c_sum_sum _ _ _ _) ls (lv_sub hl [2, 3, 4, 5, 6, 1, 0] rfl)

set_option maxHeartbeats 4000000 in
set_option maxRecDepth 100000 in
theorem c_X2_greatestTile (l : Launch) (dD : va_G) (cI cR cS : ClassId) (lo : Nat) (hfl : l.stackTraces = false) (x0 : Nat) (b ra sb hd ol : Nat → Nat) (σ : St) (hI : sI σ) (hX : xI σ hd ol) (f e x : Int32) : vx_Met l yX2_greatestTile wsX2_greatestTile ({ frames := 8, cells := 3, slots := 18, locals := 125 }) (ePc dD cI cR cS lo [.ref x0, .int f, .int e, .int x] (fun H => va_P dD vwCl (xW cI cR cS x0 b ra sb hd ol σ) H)) (vp_Si (fun r => (okP f e ∧ rg x 1 10000) ∧ r = nI (q_gt σ (plN f e) (cl x) (s_n σ)))) (eX (fun E => E = nIAE ∧ ¬ (okP f e ∧ rg x 1 10000))) 3 18 (fun _ => False) := by
  refine vx_ofW (cc := cX2_greatestTile) (maxL := 9) (ret := (some .int)) (by decide) rfl ?_
  intro p e_ s m args below meth c s₁ B hml hnt hv
  obtain ⟨rfl, hE, hP⟩ := hv
  have hx := B.exec
  have hb := B.bytes
  have hr := B.returns
  have hts := atoms_spec (ws := wsX2_greatestTile) B.pre
  have hown : s.vm.findClass RX2 = some m.cls := findClass_of_methodNamed B.named
  have hlocks := B.notSynchronized
  have hK := hE.1.1
  have hinX0 : ∀ w ∈ u_ws RX0 TX0 7, w ∈ wsX2_greatestTile := by decide +kernel
  have hinX2 : ∀ w ∈ u_ws RX2 TX2 9, w ∈ wsX2_greatestTile := by decide +kernel
  obtain ⟨i_now, i_n, i_tk, i_k, i_lt, i_row, i_cp, i_srv⟩ := id hI
  have hl := lv_entry ([.ref x0, .int f, .int e, .int x]) (n := 9) (Nat.le_of_ble_eq_true rfl)
  rw [lg_entry_eq]
  generalize (lg_sl ([.ref x0, .int f, .int e, .int x]) ++ List.replicate (9 - (lg_sl ([.ref x0, .int f, .int e, .int x])).length) Slot.unset).toArray = ls at hl ⊢
  have hl : lv_has ls 9 [(0, .ref x0), (1, .int f), (2, .int e), (3, .int x)] := hl
  refine lv_iload_n hx hb dX2_greatestTile_0 rfl (lv_at hl 1 rfl) ?_
  refine lv_iload_n hx hb dX2_greatestTile_1 rfl (lv_at hl 2 rfl) ?_
  refine nx_callv (vx_runS (As := [.int f, .int e]) (rest := []) ⟨hx, hb, hml, hown, hts⟩ (c_X2_requirePair l dD cI cR cS lo hfl f e) (va_cwS 2 hts gX2_greatestTile_X2_requirePair rfl rfl rfl (by decide +kernel) ⟨Nat.le_of_ble_eq_true rfl, Nat.le_of_ble_eq_true rfl⟩) (ePreS hE va_S.rf trivial) rfl rfl hl.1 rfl (lv_room (Nat.le_of_ble_eq_true rfl)) dX2_greatestTile_2 ⟨Nat.le_of_ble_eq_true rfl, Nat.le_of_ble_eq_true rfl⟩) (fun E ce q9 H1 hX9 hz9 hk9 hc9 hv9 hf9 => vx_out (fun x hx => (hnt x hx).elim) hlocks hc9 hv9 hf9 (fun t9 ht9 _ => ⟨⟨hX9.1, fun h => hX9.2 (h.1)⟩, by rw [ht9]; exact hz9, fun q hq _ => by rw [ht9]; exact hk9 q hq⟩) (fun z hz => absurd hz List.not_mem_nil) (by decide) (by decide)) (fun hr_2 => ?_)
  refine lv_iload_n hx hb dX2_greatestTile_5 rfl (lv_at hl 3 rfl) ?_
  refine lv_iconst (v := nI 1) hx hb dX2_greatestTile_6 (by decide +kernel) ?_
  refine lv_sipush (v := nI 10000) hx hb dX2_greatestTile_7 (by decide +kernel) ?_
  refine nx_callv (vx_runS (As := [.int x, .int (nI 1), .int (nI 10000)]) (rest := []) ⟨hx, hb, hml, hown, hts⟩ (c_X2_requireRange l dD cI cR cS lo hfl x (nI 1) (nI 10000)) (va_cwS 3 hts gX2_greatestTile_X2_requireRange rfl rfl rfl (by decide +kernel) ⟨Nat.le_of_ble_eq_true rfl, Nat.le_of_ble_eq_true rfl⟩) (ePreS hE va_S.rf trivial) rfl rfl hl.1 rfl (lv_room (Nat.le_of_ble_eq_true rfl)) dX2_greatestTile_10 ⟨Nat.le_of_ble_eq_true rfl, Nat.le_of_ble_eq_true rfl⟩) (fun E ce q9 H1 hX9 hz9 hk9 hc9 hv9 hf9 => vx_out (fun x hx => (hnt x hx).elim) hlocks hc9 hv9 hf9 (fun t9 ht9 _ => ⟨⟨hX9.1, fun h => hX9.2 (h.2)⟩, by rw [ht9]; exact hz9, fun q hq _ => by rw [ht9]; exact hk9 q hq⟩) (fun z hz => absurd hz List.not_mem_nil) (by decide) (by decide)) (fun hr_10 => ?_)
  refine vx_ret (W.widen (k := 3) (n := 18) (by decide) (by decide) ?_)
  obtain ⟨fn, hfn1, hfn2, rfl⟩ := rg_of (by decide) (by decide) (hr_2.1)
  obtain ⟨en, hen1, hen2, rfl⟩ := rg_of (by decide) (by decide) (hr_2.2)
  obtain ⟨len, hlen1, hlen2, rfl⟩ := rg_of (by decide) (by decide) (hr_10)
  refine lv_iconst (v := nI 0) hx hb dX2_greatestTile_13 (by decide +kernel) ?_
  refine lv_istore (lv' := [(4, .int (nI 0)), (0, .ref x0), (1, .int (nI fn)), (2, .int (nI en)), (3, .int (nI len))]) hx hb dX2_greatestTile_14 hl (by decide) rfl (fun ls hl => ?_)
  refine lv_iconst (v := nI 0) hx hb dX2_greatestTile_16 (by decide +kernel) ?_
  refine lv_istore (lv' := [(5, .int (nI 0)), (4, .int (nI 0)), (0, .ref x0), (1, .int (nI fn)), (2, .int (nI en)), (3, .int (nI len))]) hx hb dX2_greatestTile_17 hl (by decide) rfl (fun ls hl => ?_)
  refine lv_iconst (v := (-1)) hx hb dX2_greatestTile_19 (by decide +kernel) ?_
  refine lv_istore (lv' := [(6, .int ((-1))), (5, .int (nI 0)), (4, .int (nI 0)), (0, .ref x0), (1, .int (nI fn)), (2, .int (nI en)), (3, .int (nI len))]) hx hb dX2_greatestTile_20 hl (by decide) rfl (fun ls hl => ?_)
  refine lv_aload_n hx hb dX2_greatestTile_22 rfl (lv_at hl 3 rfl) ?_
  refine va_get (D := dD) (ci := 2) (v := .ref (b 2)) (C := RX2) (T := TX2) (N := 9) hx hb hts hinX2 hown hK hP 0 rfl rfl 4 (by decide) (hts (.fieldLink RX2 19 "FeatureStore" "latest" "[LFeatureStore$Row;") (by decide +kernel)) (fun _ h9 => h9) rfl dX2_greatestTile_23 ?_
  refine lv_iload_n hx hb dX2_greatestTile_26 rfl (lv_at hl 4 rfl) ?_
  refine lv_iload_n hx hb dX2_greatestTile_27 rfl (lv_at hl 5 rfl) ?_
  refine vp_callSi (va_Run.run (va_runS (As := [.int (nI fn), .int (nI en)]) (rest := [.ref (b 2)]) ⟨hx, hb, hml, hown, hts⟩ (c_X2_placeOf l dD cI cR cS lo fn en) (va_cwS 2 hts gX2_greatestTile_X2_placeOf rfl rfl rfl (by decide +kernel) ⟨Nat.le_of_ble_eq_true rfl, Nat.le_of_ble_eq_true rfl⟩) (ePreS hE va_S.rf trivial) rfl rfl hl.1 rfl (lv_room (Nat.le_of_ble_eq_true rfl)) dX2_greatestTile_28 ⟨Nat.le_of_ble_eq_true rfl, Nat.le_of_ble_eq_true rfl⟩)) (fun r_28 hr_28 => ?_)
  subst hr_28
  refine nq_aald (q0 := 3) (t0 := 1) (fun j => rfN ra (hd j)) hx hb hK hP rfl rfl (by omega) (by decide) dX2_greatestTile_31 ?_
  refine nq_astore (lv' := [(7, va_rf (rfN ra (hd (10 * fn + en)))), (6, .int ((-1))), (5, .int (nI 0)), (4, .int (nI 0)), (0, .ref x0), (1, .int (nI fn)), (2, .int (nI en)), (3, .int (nI len))]) hx hb dX2_greatestTile_32 hl (by decide) rfl (fun ls hl => ?_)
  have hlp : ∀ (li : List Nat) (o g sm tl : Nat), seg ol o li → (∀ y ∈ li, y < s_n σ ∧ s_pr σ y = (10 * fn + en)) → sm + c_sum σ 0 10000 li ≤ 20000000 → g ≤ 20000000 → tl ≤ 10001 → c_gt σ len li g sm tl = q_gt σ (10 * fn + en) len (s_n σ) → ∀ (ls : Array Slot), lv_has ls 9 [(0, .ref x0), (1, .int (nI fn)), (2, .int (nI en)), (3, .int (nI len)), (4, .int (nI g)), (5, .int (nI sm)), (6, .int (eN tl)), (7, va_rf (rfN ra o))] → W p l e_ (headSpec wsX2_greatestTile ({ frames := 8, cells := 3, slots := 18, locals := 125 })).room s m (([.ref x0, .int (nI fn), .int (nI en), .int (nI len)] : List Value).toArray) below meth c s.heap [] 3 18 (MQ below (vp_Si (fun r => (okP (nI fn) (nI en) ∧ rg (nI len) 1 10000) ∧ r = nI (q_gt σ (plN (nI fn) (nI en)) (cl (nI len)) (s_n σ)))) (([.ref x0, .int (nI fn), .int (nI en), .int (nI len)] : List Value).toArray) s 3 18 (fun _ => False)) (F0 m 34 ls []) := by
    intro li
    induction li with
    | nil =>
      intro o g sm tl hs_ hm_ hb_ hg_ ht_ hf_ ls hl
      have ho_ : o = 0 := hs_
      subst ho_
      have hl : lv_has ls 9 [(0, .ref x0), (1, .int (nI fn)), (2, .int (nI en)), (3, .int (nI len)), (4, .int (nI g)), (5, .int (nI sm)), (6, .int (eN tl)), (7, .null)] := hl
      refine lv_aloadN hx hb dX2_greatestTile_34 (lv_at hl 7 rfl) ?_
      refine lv_ifnullN (tgt := 91) hx hb dX2_greatestTile_36 (by decide) ?_
      refine lv_iload hx hb dX2_greatestTile_91 (lv_at hl 4 rfl) ?_
      exact W.iret (v := nI g) hx hb hr (fun u9 hu9 hW => ⟨nI g, rfl, ⟨⟨hr_2, hr_10⟩, by rw [plN, cl_nI (by omega), cl_nI (by omega), cl_nI (by omega), ← hf_]; rfl⟩, hu9⟩) (fun q h => absurd h List.not_mem_nil) dX2_greatestTile_93
    | cons x li ih =>
      intro o g sm tl hs_ hm_ hb_ hg_ ht_ hf_ ls hl
      have ho_ : o = x + 1 := hs_.1
      subst ho_
      obtain ⟨hz_x, hz_q⟩ := hm_ x List.mem_cons_self
      obtain ⟨hz_1, hz_2, hz_3, hz_4⟩ := i_row x hz_x
      have hR := xRow hP hz_x
      have hz_d : s_ev σ x / len ≤ s_ev σ x := Nat.div_le_self _ _
      have hz_c : c_sum σ 0 10000 (x :: li) = s_vl σ x + c_sum σ 0 10000 li := by simp only [c_sum]; rw [if_pos (by omega)]
      have hl : lv_has ls 9 [(0, .ref x0), (1, .int (nI fn)), (2, .int (nI en)), (3, .int (nI len)), (4, .int (nI g)), (5, .int (nI sm)), (6, .int (eN tl)), (7, .ref (ra x))] := hl
      refine lv_aload hx hb dX2_greatestTile_34 (lv_at hl 7 rfl) ?_
      refine lv_ifnull hx hb dX2_greatestTile_36 ?_
      refine lv_aload hx hb dX2_greatestTile_39 (lv_at hl 7 rfl) ?_
      refine va_get (D := dD) (ci := 0) (v := .int (nI (s_ev σ x))) (C := RX0) (T := TX0) (N := 7) hx hb hts hinX0 hown hK hR 0 rfl rfl 3 (by decide) (hts (.fieldLink RX2 76 "FeatureStore$Row" "event" "I") (by decide +kernel)) (fun _ h9 => h9) rfl dX2_greatestTile_41 ?_
      refine lv_iload_n hx hb dX2_greatestTile_44 rfl (lv_at hl 3 rfl) ?_
      refine nv_idiv hx hb dX2_greatestTile_45 (by omega) (by omega) (by omega) ?_
      refine lv_istore (lv' := [(8, .int (nI ((s_ev σ x) / len))), (0, .ref x0), (1, .int (nI fn)), (2, .int (nI en)), (3, .int (nI len)), (4, .int (nI g)), (5, .int (nI sm)), (6, .int (eN tl)), (7, .ref (ra x))]) hx hb dX2_greatestTile_46 hl (by decide) rfl (fun ls hl => ?_)
      have hl : lv_has ls 9 [(8, .int (eN (s_ev σ x / len + 1))), (0, .ref x0), (1, .int (nI fn)), (2, .int (nI en)), (3, .int (nI len)), (4, .int (nI g)), (5, .int (nI sm)), (6, .int (eN tl)), (7, .ref (ra x))] := hl
      refine lv_iload hx hb dX2_greatestTile_48 (lv_at hl 0 rfl) ?_
      refine lv_iload hx hb dX2_greatestTile_50 (lv_at hl 7 rfl) ?_
      refine nv_eqN (tgt := 62) hx hb dX2_greatestTile_52 (by decide) (by omega) (by omega) (fun c_52 => ?_) (fun c_52 => ?_)
      · subst c_52
        refine lv_iload hx hb dX2_greatestTile_62 (lv_at hl 6 rfl) ?_
        refine lv_aload hx hb dX2_greatestTile_64 (lv_at hl 8 rfl) ?_
        refine va_get (D := dD) (ci := 0) (v := .int (nI (s_vl σ x))) (C := RX0) (T := TX0) (N := 7) hx hb hts hinX0 hown hK hR 0 rfl rfl 5 (by decide) (hts (.fieldLink RX2 70 "FeatureStore$Row" "value" "I") (by decide +kernel)) (fun _ h9 => h9) rfl dX2_greatestTile_66 ?_
        refine nv_iadd hx hb dX2_greatestTile_69 ?_
        refine lv_istore (lv' := [(5, .int (nI (sm + (s_vl σ x)))), (8, .int (eN (s_ev σ x / len + 1))), (0, .ref x0), (1, .int (nI fn)), (2, .int (nI en)), (3, .int (nI len)), (4, .int (nI g)), (6, .int (eN (s_ev σ x / len + 1))), (7, .ref (ra x))]) hx hb dX2_greatestTile_70 hl (by decide) rfl (fun ls hl => ?_)
        refine lv_iload hx hb dX2_greatestTile_72 (lv_at hl 6 rfl) ?_
        refine lv_iload hx hb dX2_greatestTile_74 (lv_at hl 0 rfl) ?_
        refine nv_max hx hb (hml.trans hl.1.symm) hown (hts (.methodLink RX2 91 Lib.Math.max.name) (by decide +kernel)) (hts (.static Lib.Math.max.name) (by decide +kernel)) (hts (.initialized "java/lang/Math") (by decide +kernel)) (hts (.code Lib.Math.max.name Lib.Math.max.code 2 (some .int)) (by decide +kernel)) (Nat.le_of_ble_eq_true rfl) (Nat.le_of_ble_eq_true rfl) (Nat.le_of_ble_eq_true rfl) (Nat.le_of_ble_eq_true rfl) (by omega) (by omega) dX2_greatestTile_76 ?_
        refine lv_istore (lv' := [(4, .int (nI (max g (sm + (s_vl σ x))))), (5, .int (nI (sm + (s_vl σ x)))), (8, .int (eN (s_ev σ x / len + 1))), (0, .ref x0), (1, .int (nI fn)), (2, .int (nI en)), (3, .int (nI len)), (6, .int (eN (s_ev σ x / len + 1))), (7, .ref (ra x))]) hx hb dX2_greatestTile_79 hl (by decide) rfl (fun ls hl => ?_)
        refine lv_aload hx hb dX2_greatestTile_81 (lv_at hl 8 rfl) ?_
        refine va_get (D := dD) (ci := 0) (v := va_rf (rfN ra (ol x))) (C := RX0) (T := TX0) (N := 7) hx hb hts hinX0 hown hK hR 0 rfl rfl 6 (by decide) (hts (.fieldLink RX2 87 "FeatureStore$Row" "older" "LFeatureStore$Row;") (by decide +kernel)) (fun _ h9 => h9) rfl dX2_greatestTile_83 ?_
        refine nq_astore (lv' := [(7, va_rf (rfN ra (ol x))), (4, .int (nI (max g (sm + (s_vl σ x))))), (5, .int (nI (sm + (s_vl σ x)))), (8, .int (eN (s_ev σ x / len + 1))), (0, .ref x0), (1, .int (nI fn)), (2, .int (nI en)), (3, .int (nI len)), (6, .int (eN (s_ev σ x / len + 1)))]) hx hb dX2_greatestTile_86 hl (by decide) rfl (fun ls hl => ?_)
        refine lv_goto (tgt := 34) hx hb dX2_greatestTile_88 (by decide) ?_
        exact ih (ol x) (max g (sm + (s_vl σ x))) (sm + (s_vl σ x)) (s_ev σ x / len + 1) hs_.2 (fun y hy => hm_ y (List.mem_cons_of_mem _ hy)) (by simp only [c_sum] at hb_; rw [if_pos (by omega)] at hb_; omega) (by simp only [c_sum] at hb_; rw [if_pos (by omega)] at hb_; omega) (by omega) (by rw [← hf_]; simp only [c_gt, c_s, if_true]) ls (lv_sub hl [4, 5, 6, 7, 1, 2, 8, 0] rfl)
      · refine lv_iload hx hb dX2_greatestTile_55 (lv_at hl 0 rfl) ?_
        refine lv_istore (lv' := [(6, .int (eN (s_ev σ x / len + 1))), (8, .int (eN (s_ev σ x / len + 1))), (0, .ref x0), (1, .int (nI fn)), (2, .int (nI en)), (3, .int (nI len)), (4, .int (nI g)), (5, .int (nI sm)), (7, .ref (ra x))]) hx hb dX2_greatestTile_57 hl (by decide) rfl (fun ls hl => ?_)
        refine lv_iconst (v := nI 0) hx hb dX2_greatestTile_59 (by decide +kernel) ?_
        refine lv_istore (lv' := [(5, .int (nI 0)), (6, .int (eN (s_ev σ x / len + 1))), (8, .int (eN (s_ev σ x / len + 1))), (0, .ref x0), (1, .int (nI fn)), (2, .int (nI en)), (3, .int (nI len)), (4, .int (nI g)), (7, .ref (ra x))]) hx hb dX2_greatestTile_60 hl (by decide) rfl (fun ls hl => ?_)
        refine lv_iload hx hb dX2_greatestTile_62 (lv_at hl 0 rfl) ?_
        refine lv_aload hx hb dX2_greatestTile_64 (lv_at hl 8 rfl) ?_
        refine va_get (D := dD) (ci := 0) (v := .int (nI (s_vl σ x))) (C := RX0) (T := TX0) (N := 7) hx hb hts hinX0 hown hK hR 0 rfl rfl 5 (by decide) (hts (.fieldLink RX2 70 "FeatureStore$Row" "value" "I") (by decide +kernel)) (fun _ h9 => h9) rfl dX2_greatestTile_66 ?_
        refine nv_iadd hx hb dX2_greatestTile_69 ?_
        refine lv_istore (lv' := [(5, .int (nI (0 + (s_vl σ x)))), (6, .int (eN (s_ev σ x / len + 1))), (8, .int (eN (s_ev σ x / len + 1))), (0, .ref x0), (1, .int (nI fn)), (2, .int (nI en)), (3, .int (nI len)), (4, .int (nI g)), (7, .ref (ra x))]) hx hb dX2_greatestTile_70 hl (by decide) rfl (fun ls hl => ?_)
        refine lv_iload hx hb dX2_greatestTile_72 (lv_at hl 7 rfl) ?_
        refine lv_iload hx hb dX2_greatestTile_74 (lv_at hl 0 rfl) ?_
        refine nv_max hx hb (hml.trans hl.1.symm) hown (hts (.methodLink RX2 91 Lib.Math.max.name) (by decide +kernel)) (hts (.static Lib.Math.max.name) (by decide +kernel)) (hts (.initialized "java/lang/Math") (by decide +kernel)) (hts (.code Lib.Math.max.name Lib.Math.max.code 2 (some .int)) (by decide +kernel)) (Nat.le_of_ble_eq_true rfl) (Nat.le_of_ble_eq_true rfl) (Nat.le_of_ble_eq_true rfl) (Nat.le_of_ble_eq_true rfl) (by omega) (by omega) dX2_greatestTile_76 ?_
        refine lv_istore (lv' := [(4, .int (nI (max g (0 + (s_vl σ x))))), (5, .int (nI (0 + (s_vl σ x)))), (6, .int (eN (s_ev σ x / len + 1))), (8, .int (eN (s_ev σ x / len + 1))), (0, .ref x0), (1, .int (nI fn)), (2, .int (nI en)), (3, .int (nI len)), (7, .ref (ra x))]) hx hb dX2_greatestTile_79 hl (by decide) rfl (fun ls hl => ?_)
        refine lv_aload hx hb dX2_greatestTile_81 (lv_at hl 8 rfl) ?_
        refine va_get (D := dD) (ci := 0) (v := va_rf (rfN ra (ol x))) (C := RX0) (T := TX0) (N := 7) hx hb hts hinX0 hown hK hR 0 rfl rfl 6 (by decide) (hts (.fieldLink RX2 87 "FeatureStore$Row" "older" "LFeatureStore$Row;") (by decide +kernel)) (fun _ h9 => h9) rfl dX2_greatestTile_83 ?_
        refine nq_astore (lv' := [(7, va_rf (rfN ra (ol x))), (4, .int (nI (max g (0 + (s_vl σ x))))), (5, .int (nI (0 + (s_vl σ x)))), (6, .int (eN (s_ev σ x / len + 1))), (8, .int (eN (s_ev σ x / len + 1))), (0, .ref x0), (1, .int (nI fn)), (2, .int (nI en)), (3, .int (nI len))]) hx hb dX2_greatestTile_86 hl (by decide) rfl (fun ls hl => ?_)
        refine lv_goto (tgt := 34) hx hb dX2_greatestTile_88 (by decide) ?_
        exact ih (ol x) (max g (0 + (s_vl σ x))) (0 + (s_vl σ x)) (s_ev σ x / len + 1) hs_.2 (fun y hy => hm_ y (List.mem_cons_of_mem _ hy)) (by simp only [c_sum] at hb_; rw [if_pos (by omega)] at hb_; omega) (by simp only [c_sum] at hb_; rw [if_pos (by omega)] at hb_; omega) (by omega) (by rw [← hf_]; simp only [c_gt, c_s]; rw [if_neg c_52]) ls (lv_sub hl [5, 6, 7, 8, 1, 2, 3, 0] rfl)
  exact hlp (chn σ (10 * fn + en) (s_n σ)) (hd (10 * fn + en)) 0 0 0 (hX (10 * fn + en) (by omega)) (fun y hy => mem_chn.mp hy) (by rw [Nat.zero_add]; exact c_sum_all hI _) (by omega) (by omega) (c_gt_gt _ _ (by omega)) ls (lv_sub hl [4, 5, 6, 7, 3, 2, 1, 0] rfl)

set_option maxHeartbeats 4000000 in
set_option maxRecDepth 100000 in
theorem c_X2_tiles (l : Launch) (dD : va_G) (cI cR cS : ClassId) (lo : Nat) (hfl : l.stackTraces = false) (x0 : Nat) (b ra sb hd ol : Nat → Nat) (σ : St) (hI : sI σ) (hX : xI σ hd ol) (f e x : Int32) : vx_Met l yX2_tiles wsX2_tiles ({ frames := 8, cells := 3, slots := 18, locals := 125 }) (ePc dD cI cR cS lo [.ref x0, .int f, .int e, .int x] (fun H => va_P dD vwCl (xW cI cR cS x0 b ra sb hd ol σ) H)) (vp_Si (fun r => (okP f e ∧ rg x 1 10000) ∧ r = nI (q_tl σ (plN f e) (cl x) (s_n σ)))) (eX (fun E => E = nIAE ∧ ¬ (okP f e ∧ rg x 1 10000))) 3 18 (fun _ => False) := by
  refine vx_ofW (cc := cX2_tiles) (maxL := 8) (ret := (some .int)) (by decide) rfl ?_
  intro p e_ s m args below meth c s₁ B hml hnt hv
  obtain ⟨rfl, hE, hP⟩ := hv
  have hx := B.exec
  have hb := B.bytes
  have hr := B.returns
  have hts := atoms_spec (ws := wsX2_tiles) B.pre
  have hown : s.vm.findClass RX2 = some m.cls := findClass_of_methodNamed B.named
  have hlocks := B.notSynchronized
  have hK := hE.1.1
  have hinX0 : ∀ w ∈ u_ws RX0 TX0 7, w ∈ wsX2_tiles := by decide +kernel
  have hinX2 : ∀ w ∈ u_ws RX2 TX2 9, w ∈ wsX2_tiles := by decide +kernel
  obtain ⟨i_now, i_n, i_tk, i_k, i_lt, i_row, i_cp, i_srv⟩ := id hI
  have hl := lv_entry ([.ref x0, .int f, .int e, .int x]) (n := 8) (Nat.le_of_ble_eq_true rfl)
  rw [lg_entry_eq]
  generalize (lg_sl ([.ref x0, .int f, .int e, .int x]) ++ List.replicate (8 - (lg_sl ([.ref x0, .int f, .int e, .int x])).length) Slot.unset).toArray = ls at hl ⊢
  have hl : lv_has ls 8 [(0, .ref x0), (1, .int f), (2, .int e), (3, .int x)] := hl
  refine lv_iload_n hx hb dX2_tiles_0 rfl (lv_at hl 1 rfl) ?_
  refine lv_iload_n hx hb dX2_tiles_1 rfl (lv_at hl 2 rfl) ?_
  refine nx_callv (vx_runS (As := [.int f, .int e]) (rest := []) ⟨hx, hb, hml, hown, hts⟩ (c_X2_requirePair l dD cI cR cS lo hfl f e) (va_cwS 2 hts gX2_tiles_X2_requirePair rfl rfl rfl (by decide +kernel) ⟨Nat.le_of_ble_eq_true rfl, Nat.le_of_ble_eq_true rfl⟩) (ePreS hE va_S.rf trivial) rfl rfl hl.1 rfl (lv_room (Nat.le_of_ble_eq_true rfl)) dX2_tiles_2 ⟨Nat.le_of_ble_eq_true rfl, Nat.le_of_ble_eq_true rfl⟩) (fun E ce q9 H1 hX9 hz9 hk9 hc9 hv9 hf9 => vx_out (fun x hx => (hnt x hx).elim) hlocks hc9 hv9 hf9 (fun t9 ht9 _ => ⟨⟨hX9.1, fun h => hX9.2 (h.1)⟩, by rw [ht9]; exact hz9, fun q hq _ => by rw [ht9]; exact hk9 q hq⟩) (fun z hz => absurd hz List.not_mem_nil) (by decide) (by decide)) (fun hr_2 => ?_)
  refine lv_iload_n hx hb dX2_tiles_5 rfl (lv_at hl 3 rfl) ?_
  refine lv_iconst (v := nI 1) hx hb dX2_tiles_6 (by decide +kernel) ?_
  refine lv_sipush (v := nI 10000) hx hb dX2_tiles_7 (by decide +kernel) ?_
  refine nx_callv (vx_runS (As := [.int x, .int (nI 1), .int (nI 10000)]) (rest := []) ⟨hx, hb, hml, hown, hts⟩ (c_X2_requireRange l dD cI cR cS lo hfl x (nI 1) (nI 10000)) (va_cwS 3 hts gX2_tiles_X2_requireRange rfl rfl rfl (by decide +kernel) ⟨Nat.le_of_ble_eq_true rfl, Nat.le_of_ble_eq_true rfl⟩) (ePreS hE va_S.rf trivial) rfl rfl hl.1 rfl (lv_room (Nat.le_of_ble_eq_true rfl)) dX2_tiles_10 ⟨Nat.le_of_ble_eq_true rfl, Nat.le_of_ble_eq_true rfl⟩) (fun E ce q9 H1 hX9 hz9 hk9 hc9 hv9 hf9 => vx_out (fun x hx => (hnt x hx).elim) hlocks hc9 hv9 hf9 (fun t9 ht9 _ => ⟨⟨hX9.1, fun h => hX9.2 (h.2)⟩, by rw [ht9]; exact hz9, fun q hq _ => by rw [ht9]; exact hk9 q hq⟩) (fun z hz => absurd hz List.not_mem_nil) (by decide) (by decide)) (fun hr_10 => ?_)
  refine vx_ret (W.widen (k := 3) (n := 18) (by decide) (by decide) ?_)
  obtain ⟨fn, hfn1, hfn2, rfl⟩ := rg_of (by decide) (by decide) (hr_2.1)
  obtain ⟨en, hen1, hen2, rfl⟩ := rg_of (by decide) (by decide) (hr_2.2)
  obtain ⟨len, hlen1, hlen2, rfl⟩ := rg_of (by decide) (by decide) (hr_10)
  refine lv_iconst (v := nI 0) hx hb dX2_tiles_13 (by decide +kernel) ?_
  refine lv_istore (lv' := [(4, .int (nI 0)), (0, .ref x0), (1, .int (nI fn)), (2, .int (nI en)), (3, .int (nI len))]) hx hb dX2_tiles_14 hl (by decide) rfl (fun ls hl => ?_)
  refine lv_iconst (v := (-1)) hx hb dX2_tiles_16 (by decide +kernel) ?_
  refine lv_istore (lv' := [(5, .int ((-1))), (4, .int (nI 0)), (0, .ref x0), (1, .int (nI fn)), (2, .int (nI en)), (3, .int (nI len))]) hx hb dX2_tiles_17 hl (by decide) rfl (fun ls hl => ?_)
  refine lv_aload_n hx hb dX2_tiles_19 rfl (lv_at hl 2 rfl) ?_
  refine va_get (D := dD) (ci := 2) (v := .ref (b 2)) (C := RX2) (T := TX2) (N := 9) hx hb hts hinX2 hown hK hP 0 rfl rfl 4 (by decide) (hts (.fieldLink RX2 19 "FeatureStore" "latest" "[LFeatureStore$Row;") (by decide +kernel)) (fun _ h9 => h9) rfl dX2_tiles_20 ?_
  refine lv_iload_n hx hb dX2_tiles_23 rfl (lv_at hl 3 rfl) ?_
  refine lv_iload_n hx hb dX2_tiles_24 rfl (lv_at hl 4 rfl) ?_
  refine vp_callSi (va_Run.run (va_runS (As := [.int (nI fn), .int (nI en)]) (rest := [.ref (b 2)]) ⟨hx, hb, hml, hown, hts⟩ (c_X2_placeOf l dD cI cR cS lo fn en) (va_cwS 2 hts gX2_tiles_X2_placeOf rfl rfl rfl (by decide +kernel) ⟨Nat.le_of_ble_eq_true rfl, Nat.le_of_ble_eq_true rfl⟩) (ePreS hE va_S.rf trivial) rfl rfl hl.1 rfl (lv_room (Nat.le_of_ble_eq_true rfl)) dX2_tiles_25 ⟨Nat.le_of_ble_eq_true rfl, Nat.le_of_ble_eq_true rfl⟩)) (fun r_25 hr_25 => ?_)
  subst hr_25
  refine nq_aald (q0 := 3) (t0 := 1) (fun j => rfN ra (hd j)) hx hb hK hP rfl rfl (by omega) (by decide) dX2_tiles_28 ?_
  refine nq_astore (lv' := [(6, va_rf (rfN ra (hd (10 * fn + en)))), (5, .int ((-1))), (4, .int (nI 0)), (0, .ref x0), (1, .int (nI fn)), (2, .int (nI en)), (3, .int (nI len))]) hx hb dX2_tiles_29 hl (by decide) rfl (fun ls hl => ?_)
  have hlp : ∀ (li : List Nat) (o cn tl : Nat), seg ol o li → (∀ y ∈ li, y < s_n σ ∧ s_pr σ y = (10 * fn + en)) → tl ≤ 10001 → cn + c_tl σ len li tl = q_tl σ (10 * fn + en) len (s_n σ) → ∀ (ls : Array Slot), lv_has ls 8 [(0, .ref x0), (1, .int (nI fn)), (2, .int (nI en)), (3, .int (nI len)), (4, .int (nI cn)), (5, .int (eN tl)), (6, va_rf (rfN ra o))] → W p l e_ (headSpec wsX2_tiles ({ frames := 8, cells := 3, slots := 18, locals := 125 })).room s m (([.ref x0, .int (nI fn), .int (nI en), .int (nI len)] : List Value).toArray) below meth c s.heap [] 3 18 (MQ below (vp_Si (fun r => (okP (nI fn) (nI en) ∧ rg (nI len) 1 10000) ∧ r = nI (q_tl σ (plN (nI fn) (nI en)) (cl (nI len)) (s_n σ)))) (([.ref x0, .int (nI fn), .int (nI en), .int (nI len)] : List Value).toArray) s 3 18 (fun _ => False)) (F0 m 31 ls []) := by
    intro li
    induction li with
    | nil =>
      intro o cn tl hs_ hm_ ht_ hf_ ls hl
      have ho_ : o = 0 := hs_
      subst ho_
      have hl : lv_has ls 8 [(0, .ref x0), (1, .int (nI fn)), (2, .int (nI en)), (3, .int (nI len)), (4, .int (nI cn)), (5, .int (eN tl)), (6, .null)] := hl
      refine lv_aloadN hx hb dX2_tiles_31 (lv_at hl 6 rfl) ?_
      refine lv_ifnullN (tgt := 69) hx hb dX2_tiles_33 (by decide) ?_
      refine lv_iload hx hb dX2_tiles_69 (lv_at hl 4 rfl) ?_
      exact W.iret (v := nI cn) hx hb hr (fun u9 hu9 hW => ⟨nI cn, rfl, ⟨⟨hr_2, hr_10⟩, by rw [plN, cl_nI (by omega), cl_nI (by omega), cl_nI (by omega), ← hf_]; rfl⟩, hu9⟩) (fun q h => absurd h List.not_mem_nil) dX2_tiles_71
    | cons x li ih =>
      intro o cn tl hs_ hm_ ht_ hf_ ls hl
      have ho_ : o = x + 1 := hs_.1
      subst ho_
      obtain ⟨hz_x, hz_q⟩ := hm_ x List.mem_cons_self
      obtain ⟨hz_1, hz_2, hz_3, hz_4⟩ := i_row x hz_x
      have hR := xRow hP hz_x
      have hz_d : s_ev σ x / len ≤ s_ev σ x := Nat.div_le_self _ _
      have hl : lv_has ls 8 [(0, .ref x0), (1, .int (nI fn)), (2, .int (nI en)), (3, .int (nI len)), (4, .int (nI cn)), (5, .int (eN tl)), (6, .ref (ra x))] := hl
      refine lv_aload hx hb dX2_tiles_31 (lv_at hl 6 rfl) ?_
      refine lv_ifnull hx hb dX2_tiles_33 ?_
      refine lv_aload hx hb dX2_tiles_36 (lv_at hl 6 rfl) ?_
      refine va_get (D := dD) (ci := 0) (v := .int (nI (s_ev σ x))) (C := RX0) (T := TX0) (N := 7) hx hb hts hinX0 hown hK hR 0 rfl rfl 3 (by decide) (hts (.fieldLink RX2 76 "FeatureStore$Row" "event" "I") (by decide +kernel)) (fun _ h9 => h9) rfl dX2_tiles_38 ?_
      refine lv_iload_n hx hb dX2_tiles_41 rfl (lv_at hl 3 rfl) ?_
      refine nv_idiv hx hb dX2_tiles_42 (by omega) (by omega) (by omega) ?_
      refine lv_istore (lv' := [(7, .int (nI ((s_ev σ x) / len))), (0, .ref x0), (1, .int (nI fn)), (2, .int (nI en)), (3, .int (nI len)), (4, .int (nI cn)), (5, .int (eN tl)), (6, .ref (ra x))]) hx hb dX2_tiles_43 hl (by decide) rfl (fun ls hl => ?_)
      have hl : lv_has ls 8 [(7, .int (eN (s_ev σ x / len + 1))), (0, .ref x0), (1, .int (nI fn)), (2, .int (nI en)), (3, .int (nI len)), (4, .int (nI cn)), (5, .int (eN tl)), (6, .ref (ra x))] := hl
      refine lv_iload hx hb dX2_tiles_45 (lv_at hl 0 rfl) ?_
      refine lv_iload hx hb dX2_tiles_47 (lv_at hl 6 rfl) ?_
      refine nv_eqN (tgt := 59) hx hb dX2_tiles_49 (by decide) (by omega) (by omega) (fun c_49 => ?_) (fun c_49 => ?_)
      · subst c_49
        refine lv_aload hx hb dX2_tiles_59 (lv_at hl 7 rfl) ?_
        refine va_get (D := dD) (ci := 0) (v := va_rf (rfN ra (ol x))) (C := RX0) (T := TX0) (N := 7) hx hb hts hinX0 hown hK hR 0 rfl rfl 6 (by decide) (hts (.fieldLink RX2 87 "FeatureStore$Row" "older" "LFeatureStore$Row;") (by decide +kernel)) (fun _ h9 => h9) rfl dX2_tiles_61 ?_
        refine nq_astore (lv' := [(6, va_rf (rfN ra (ol x))), (7, .int (eN (s_ev σ x / len + 1))), (0, .ref x0), (1, .int (nI fn)), (2, .int (nI en)), (3, .int (nI len)), (4, .int (nI cn)), (5, .int (eN (s_ev σ x / len + 1)))]) hx hb dX2_tiles_64 hl (by decide) rfl (fun ls hl => ?_)
        refine lv_goto (tgt := 31) hx hb dX2_tiles_66 (by decide) ?_
        exact ih (ol x) (cn) (s_ev σ x / len + 1) hs_.2 (fun y hy => hm_ y (List.mem_cons_of_mem _ hy)) (by omega) (by rw [← hf_]; simp only [c_tl, if_true]; omega) ls (lv_sub hl [2, 3, 4, 5, 6, 7, 0] rfl)
      · refine lv_iload hx hb dX2_tiles_52 (lv_at hl 0 rfl) ?_
        refine lv_istore (lv' := [(5, .int (eN (s_ev σ x / len + 1))), (7, .int (eN (s_ev σ x / len + 1))), (0, .ref x0), (1, .int (nI fn)), (2, .int (nI en)), (3, .int (nI len)), (4, .int (nI cn)), (6, .ref (ra x))]) hx hb dX2_tiles_54 hl (by decide) rfl (fun ls hl => ?_)
        refine lv_iinc (v := nI (cn + 1)) (lv' := [(4, .int (nI (cn + 1))), (5, .int (eN (s_ev σ x / len + 1))), (7, .int (eN (s_ev σ x / len + 1))), (0, .ref x0), (1, .int (nI fn)), (2, .int (nI en)), (3, .int (nI len)), (6, .ref (ra x))]) hx hb dX2_tiles_56 hl (k := 6) rfl (nv_inc _ 1) (by decide) rfl (fun ls hl => ?_)
        refine lv_aload hx hb dX2_tiles_59 (lv_at hl 7 rfl) ?_
        refine va_get (D := dD) (ci := 0) (v := va_rf (rfN ra (ol x))) (C := RX0) (T := TX0) (N := 7) hx hb hts hinX0 hown hK hR 0 rfl rfl 6 (by decide) (hts (.fieldLink RX2 87 "FeatureStore$Row" "older" "LFeatureStore$Row;") (by decide +kernel)) (fun _ h9 => h9) rfl dX2_tiles_61 ?_
        refine nq_astore (lv' := [(6, va_rf (rfN ra (ol x))), (4, .int (nI (cn + 1))), (5, .int (eN (s_ev σ x / len + 1))), (7, .int (eN (s_ev σ x / len + 1))), (0, .ref x0), (1, .int (nI fn)), (2, .int (nI en)), (3, .int (nI len))]) hx hb dX2_tiles_64 hl (by decide) rfl (fun ls hl => ?_)
        refine lv_goto (tgt := 31) hx hb dX2_tiles_66 (by decide) ?_
        exact ih (ol x) (cn + 1) (s_ev σ x / len + 1) hs_.2 (fun y hy => hm_ y (List.mem_cons_of_mem _ hy)) (by omega) (by rw [← hf_]; simp only [c_tl]; rw [if_neg c_49]; omega) ls (lv_sub hl [4, 5, 6, 7, 1, 2, 0] rfl)
  exact hlp (chn σ (10 * fn + en) (s_n σ)) (hd (10 * fn + en)) 0 0 (hX (10 * fn + en) (by omega)) (fun y hy => mem_chn.mp hy) (by omega) (by rw [Nat.zero_add]; exact c_tl_tl _ _ (by omega)) ls (lv_sub hl [3, 4, 5, 6, 2, 1, 0] rfl)

set_option maxHeartbeats 4000000 in
set_option maxRecDepth 100000 in
theorem c_X2_revised (l : Launch) (dD : va_G) (cI cR cS : ClassId) (lo : Nat) (hfl : l.stackTraces = false) (x0 : Nat) (b ra sb hd ol : Nat → Nat) (σ : St) (hI : sI σ) (hX : xI σ hd ol) (f e x : Int32) : vx_Met l yX2_revised wsX2_revised ({ frames := 8, cells := 3, slots := 18, locals := 125 }) (ePc dD cI cR cS lo [.ref x0, .int f, .int e, .int x] (fun H => va_P dD vwCl (xW cI cR cS x0 b ra sb hd ol σ) H)) (vp_Si (fun r => (okP f e ∧ rg x 1 10000) ∧ r = nI (q_rev σ (plN f e) (cl x) (s_now σ / cl x + 1)))) (eX (fun E => E = nIAE ∧ ¬ (okP f e ∧ rg x 1 10000))) 3 18 (fun _ => False) := by
  refine vx_ofW (cc := cX2_revised) (maxL := 9) (ret := (some .int)) (by decide) rfl ?_
  intro p e_ s m args below meth c s₁ B hml hnt hv
  obtain ⟨rfl, hE, hP⟩ := hv
  have hx := B.exec
  have hb := B.bytes
  have hr := B.returns
  have hts := atoms_spec (ws := wsX2_revised) B.pre
  have hown : s.vm.findClass RX2 = some m.cls := findClass_of_methodNamed B.named
  have hlocks := B.notSynchronized
  have hK := hE.1.1
  have hinX0 : ∀ w ∈ u_ws RX0 TX0 7, w ∈ wsX2_revised := by decide +kernel
  have hinX2 : ∀ w ∈ u_ws RX2 TX2 9, w ∈ wsX2_revised := by decide +kernel
  obtain ⟨i_now, i_n, i_tk, i_k, i_lt, i_row, i_cp, i_srv⟩ := id hI
  have hl := lv_entry ([.ref x0, .int f, .int e, .int x]) (n := 9) (Nat.le_of_ble_eq_true rfl)
  rw [lg_entry_eq]
  generalize (lg_sl ([.ref x0, .int f, .int e, .int x]) ++ List.replicate (9 - (lg_sl ([.ref x0, .int f, .int e, .int x])).length) Slot.unset).toArray = ls at hl ⊢
  have hl : lv_has ls 9 [(0, .ref x0), (1, .int f), (2, .int e), (3, .int x)] := hl
  refine lv_iload_n hx hb dX2_revised_0 rfl (lv_at hl 1 rfl) ?_
  refine lv_iload_n hx hb dX2_revised_1 rfl (lv_at hl 2 rfl) ?_
  refine nx_callv (vx_runS (As := [.int f, .int e]) (rest := []) ⟨hx, hb, hml, hown, hts⟩ (c_X2_requirePair l dD cI cR cS lo hfl f e) (va_cwS 2 hts gX2_revised_X2_requirePair rfl rfl rfl (by decide +kernel) ⟨Nat.le_of_ble_eq_true rfl, Nat.le_of_ble_eq_true rfl⟩) (ePreS hE va_S.rf trivial) rfl rfl hl.1 rfl (lv_room (Nat.le_of_ble_eq_true rfl)) dX2_revised_2 ⟨Nat.le_of_ble_eq_true rfl, Nat.le_of_ble_eq_true rfl⟩) (fun E ce q9 H1 hX9 hz9 hk9 hc9 hv9 hf9 => vx_out (fun x hx => (hnt x hx).elim) hlocks hc9 hv9 hf9 (fun t9 ht9 _ => ⟨⟨hX9.1, fun h => hX9.2 (h.1)⟩, by rw [ht9]; exact hz9, fun q hq _ => by rw [ht9]; exact hk9 q hq⟩) (fun z hz => absurd hz List.not_mem_nil) (by decide) (by decide)) (fun hr_2 => ?_)
  refine lv_iload_n hx hb dX2_revised_5 rfl (lv_at hl 3 rfl) ?_
  refine lv_iconst (v := nI 1) hx hb dX2_revised_6 (by decide +kernel) ?_
  refine lv_sipush (v := nI 10000) hx hb dX2_revised_7 (by decide +kernel) ?_
  refine nx_callv (vx_runS (As := [.int x, .int (nI 1), .int (nI 10000)]) (rest := []) ⟨hx, hb, hml, hown, hts⟩ (c_X2_requireRange l dD cI cR cS lo hfl x (nI 1) (nI 10000)) (va_cwS 3 hts gX2_revised_X2_requireRange rfl rfl rfl (by decide +kernel) ⟨Nat.le_of_ble_eq_true rfl, Nat.le_of_ble_eq_true rfl⟩) (ePreS hE va_S.rf trivial) rfl rfl hl.1 rfl (lv_room (Nat.le_of_ble_eq_true rfl)) dX2_revised_10 ⟨Nat.le_of_ble_eq_true rfl, Nat.le_of_ble_eq_true rfl⟩) (fun E ce q9 H1 hX9 hz9 hk9 hc9 hv9 hf9 => vx_out (fun x hx => (hnt x hx).elim) hlocks hc9 hv9 hf9 (fun t9 ht9 _ => ⟨⟨hX9.1, fun h => hX9.2 (h.2)⟩, by rw [ht9]; exact hz9, fun q hq _ => by rw [ht9]; exact hk9 q hq⟩) (fun z hz => absurd hz List.not_mem_nil) (by decide) (by decide)) (fun hr_10 => ?_)
  refine vx_ret (W.widen (k := 3) (n := 18) (by decide) (by decide) ?_)
  obtain ⟨fn, hfn1, hfn2, rfl⟩ := rg_of (by decide) (by decide) (hr_2.1)
  obtain ⟨en, hen1, hen2, rfl⟩ := rg_of (by decide) (by decide) (hr_2.2)
  obtain ⟨T, hT1, hT2, rfl⟩ := rg_of (by decide) (by decide) (hr_10)
  refine lv_iconst (v := nI 0) hx hb dX2_revised_13 (by decide +kernel) ?_
  refine lv_istore (lv' := [(4, .int (nI 0)), (0, .ref x0), (1, .int (nI fn)), (2, .int (nI en)), (3, .int (nI T))]) hx hb dX2_revised_14 hl (by decide) rfl (fun ls hl => ?_)
  refine lv_aload_n hx hb dX2_revised_16 rfl (lv_at hl 1 rfl) ?_
  refine va_get (D := dD) (ci := 2) (v := .int (nI (s_now σ))) (C := RX2) (T := TX2) (N := 9) hx hb hts hinX2 hown hK hP 0 rfl rfl 0 (by decide) (hts (.fieldLink RX2 35 "FeatureStore" "now" "I") (by decide +kernel)) (fun _ h9 => h9) rfl dX2_revised_17 ?_
  refine lv_iconst (v := nI 1) hx hb dX2_revised_20 (by decide +kernel) ?_
  refine nv_iadd hx hb dX2_revised_21 ?_
  refine lv_istore (lv' := [(5, .int (nI ((s_now σ) + 1))), (4, .int (nI 0)), (0, .ref x0), (1, .int (nI fn)), (2, .int (nI en)), (3, .int (nI T))]) hx hb dX2_revised_22 hl (by decide) rfl (fun ls hl => ?_)
  refine lv_aload_n hx hb dX2_revised_24 rfl (lv_at hl 2 rfl) ?_
  refine va_get (D := dD) (ci := 2) (v := .ref (b 2)) (C := RX2) (T := TX2) (N := 9) hx hb hts hinX2 hown hK hP 0 rfl rfl 4 (by decide) (hts (.fieldLink RX2 19 "FeatureStore" "latest" "[LFeatureStore$Row;") (by decide +kernel)) (fun _ h9 => h9) rfl dX2_revised_25 ?_
  refine lv_iload_n hx hb dX2_revised_28 rfl (lv_at hl 3 rfl) ?_
  refine lv_iload_n hx hb dX2_revised_29 rfl (lv_at hl 4 rfl) ?_
  refine vp_callSi (va_Run.run (va_runS (As := [.int (nI fn), .int (nI en)]) (rest := [.ref (b 2)]) ⟨hx, hb, hml, hown, hts⟩ (c_X2_placeOf l dD cI cR cS lo fn en) (va_cwS 2 hts gX2_revised_X2_placeOf rfl rfl rfl (by decide +kernel) ⟨Nat.le_of_ble_eq_true rfl, Nat.le_of_ble_eq_true rfl⟩) (ePreS hE va_S.rf trivial) rfl rfl hl.1 rfl (lv_room (Nat.le_of_ble_eq_true rfl)) dX2_revised_30 ⟨Nat.le_of_ble_eq_true rfl, Nat.le_of_ble_eq_true rfl⟩)) (fun r_30 hr_30 => ?_)
  subst hr_30
  refine nq_aald (q0 := 3) (t0 := 1) (fun j => rfN ra (hd j)) hx hb hK hP rfl rfl (by omega) (by decide) dX2_revised_33 ?_
  refine nq_astore (lv' := [(6, va_rf (rfN ra (hd (10 * fn + en)))), (5, .int (nI ((s_now σ) + 1))), (4, .int (nI 0)), (0, .ref x0), (1, .int (nI fn)), (2, .int (nI en)), (3, .int (nI T))]) hx hb dX2_revised_34 hl (by decide) rfl (fun ls hl => ?_)
  have hlp : ∀ (li : List Nat) (o cn lt_ : Nat), seg ol o li → (∀ y ∈ li, y < s_n σ ∧ s_pr σ y = (10 * fn + en)) → lt_ ≤ 10001 → cn + c_rev σ fn T li lt_ = q_rev σ (10 * fn + en) T (s_now σ / T + 1) → ∀ (ls : Array Slot), lv_has ls 9 [(0, .ref x0), (1, .int (nI fn)), (2, .int (nI en)), (3, .int (nI T)), (4, .int (nI cn)), (5, .int (nI lt_)), (6, va_rf (rfN ra o))] → W p l e_ (headSpec wsX2_revised ({ frames := 8, cells := 3, slots := 18, locals := 125 })).room s m (([.ref x0, .int (nI fn), .int (nI en), .int (nI T)] : List Value).toArray) below meth c s.heap [] 3 18 (MQ below (vp_Si (fun r => (okP (nI fn) (nI en) ∧ rg (nI T) 1 10000) ∧ r = nI (q_rev σ (plN (nI fn) (nI en)) (cl (nI T)) (s_now σ / cl (nI T) + 1)))) (([.ref x0, .int (nI fn), .int (nI en), .int (nI T)] : List Value).toArray) s 3 18 (fun _ => False)) (F0 m 36 ls []) := by
    intro li
    induction li with
    | nil =>
      intro o cn lt_ hs_ hm_ ht_ hf_ ls hl
      have ho_ : o = 0 := hs_
      subst ho_
      have hl : lv_has ls 9 [(0, .ref x0), (1, .int (nI fn)), (2, .int (nI en)), (3, .int (nI T)), (4, .int (nI cn)), (5, .int (nI lt_)), (6, .null)] := hl
      refine lv_aloadN hx hb dX2_revised_36 (lv_at hl 6 rfl) ?_
      refine lv_ifnullN (tgt := 122) hx hb dX2_revised_38 (by decide) ?_
      refine lv_iload hx hb dX2_revised_122 (lv_at hl 4 rfl) ?_
      exact W.iret (v := nI cn) hx hb hr (fun u9 hu9 hW => ⟨nI cn, rfl, ⟨⟨hr_2, hr_10⟩, by rw [plN, cl_nI (by omega), cl_nI (by omega), cl_nI (by omega), ← hf_]; rfl⟩, hu9⟩) (fun q h => absurd h List.not_mem_nil) dX2_revised_124
    | cons x li ih =>
      intro o cn lt_ hs_ hm_ ht_ hf_ ls hl
      have ho_ : o = x + 1 := hs_.1
      subst ho_
      obtain ⟨hz_x, hz_q⟩ := hm_ x List.mem_cons_self
      obtain ⟨hz_1, hz_2, hz_3, hz_4⟩ := i_row x hz_x
      have hR := xRow hP hz_x
      have hz_l := i_lt fn (by omega)
      have hl : lv_has ls 9 [(0, .ref x0), (1, .int (nI fn)), (2, .int (nI en)), (3, .int (nI T)), (4, .int (nI cn)), (5, .int (nI lt_)), (6, .ref (ra x))] := hl
      refine lv_aload hx hb dX2_revised_36 (lv_at hl 6 rfl) ?_
      refine lv_ifnull hx hb dX2_revised_38 ?_
      refine lv_iload hx hb dX2_revised_41 (lv_at hl 5 rfl) ?_
      refine lv_aload hx hb dX2_revised_43 (lv_at hl 6 rfl) ?_
      refine va_get (D := dD) (ci := 0) (v := .int (nI (s_ev σ x))) (C := RX0) (T := TX0) (N := 7) hx hb hts hinX0 hown hK hR 0 rfl rfl 3 (by decide) (hts (.fieldLink RX2 76 "FeatureStore$Row" "event" "I") (by decide +kernel)) (fun _ h9 => h9) rfl dX2_revised_45 ?_
      refine lv_aload_n hx hb dX2_revised_48 rfl (lv_at hl 0 rfl) ?_
      refine va_get (D := dD) (ci := 2) (v := .ref (b 0)) (C := RX2) (T := TX2) (N := 9) hx hb hts hinX2 hown hK hP 0 rfl rfl 1 (by decide) (hts (.fieldLink RX2 9 "FeatureStore" "lifetimes" "[I") (by decide +kernel)) (fun _ h9 => h9) rfl dX2_revised_49 ?_
      refine lv_iload_n hx hb dX2_revised_52 rfl (lv_at hl 1 rfl) ?_
      refine nv_iald (q0 := 1) (t0 := 0) (s_lt σ) hx hb hK hP rfl rfl (by omega) (by decide) dX2_revised_53 ?_
      refine nv_iadd hx hb dX2_revised_54 ?_
      refine lv_iconst (v := nI 1) hx hb dX2_revised_55 (by decide +kernel) ?_
      refine nv_iadd hx hb dX2_revised_56 ?_
      refine nv_min hx hb (hml.trans hl.1.symm) hown (hts (.methodLink RX2 96 Lib.Math.min.name) (by decide +kernel)) (hts (.static Lib.Math.min.name) (by decide +kernel)) (hts (.initialized "java/lang/Math") (by decide +kernel)) (hts (.code Lib.Math.min.name Lib.Math.min.code 2 (some .int)) (by decide +kernel)) (Nat.le_of_ble_eq_true rfl) (Nat.le_of_ble_eq_true rfl) (Nat.le_of_ble_eq_true rfl) (Nat.le_of_ble_eq_true rfl) (by omega) (by omega) dX2_revised_57 ?_
      refine lv_istore (lv' := [(7, .int (nI (min lt_ (((s_ev σ x) + (s_lt σ fn)) + 1)))), (0, .ref x0), (1, .int (nI fn)), (2, .int (nI en)), (3, .int (nI T)), (4, .int (nI cn)), (5, .int (nI lt_)), (6, .ref (ra x))]) hx hb dX2_revised_60 hl (by decide) rfl (fun ls hl => ?_)
      refine lv_iload hx hb dX2_revised_62 (lv_at hl 0 rfl) ?_
      refine lv_aload hx hb dX2_revised_64 (lv_at hl 7 rfl) ?_
      refine va_get (D := dD) (ci := 0) (v := .int (nI (s_ar σ x))) (C := RX0) (T := TX0) (N := 7) hx hb hts hinX0 hown hK hR 0 rfl rfl 4 (by decide) (hts (.fieldLink RX2 73 "FeatureStore$Row" "arrival" "I") (by decide +kernel)) (fun _ h9 => h9) rfl dX2_revised_66 ?_
      refine nv_min hx hb (hml.trans hl.1.symm) hown (hts (.methodLink RX2 96 Lib.Math.min.name) (by decide +kernel)) (hts (.static Lib.Math.min.name) (by decide +kernel)) (hts (.initialized "java/lang/Math") (by decide +kernel)) (hts (.code Lib.Math.min.name Lib.Math.min.code 2 (some .int)) (by decide +kernel)) (Nat.le_of_ble_eq_true rfl) (Nat.le_of_ble_eq_true rfl) (Nat.le_of_ble_eq_true rfl) (Nat.le_of_ble_eq_true rfl) (by omega) (by omega) dX2_revised_69 ?_
      refine lv_istore (lv' := [(8, .int (nI (min (min lt_ (((s_ev σ x) + (s_lt σ fn)) + 1)) (s_ar σ x)))), (7, .int (nI (min lt_ (((s_ev σ x) + (s_lt σ fn)) + 1)))), (0, .ref x0), (1, .int (nI fn)), (2, .int (nI en)), (3, .int (nI T)), (4, .int (nI cn)), (5, .int (nI lt_)), (6, .ref (ra x))]) hx hb dX2_revised_72 hl (by decide) rfl (fun ls hl => ?_)
      have hl : lv_has ls 9 [(8, .int (nI (c_ru σ fn x lt_))), (0, .ref x0), (1, .int (nI fn)), (2, .int (nI en)), (3, .int (nI T)), (4, .int (nI cn)), (5, .int (nI lt_)), (6, .ref (ra x))] := lv_sub hl [0, 2, 3, 4, 5, 6, 7, 8] rfl
      have hz_u : c_ru σ fn x lt_ ≤ 20002 := by unfold c_ru; omega
      refine lv_iload hx hb dX2_revised_74 (lv_at hl 0 rfl) ?_
      refine lv_aload hx hb dX2_revised_76 (lv_at hl 7 rfl) ?_
      refine va_get (D := dD) (ci := 0) (v := .int (nI (s_ev σ x))) (C := RX0) (T := TX0) (N := 7) hx hb hts hinX0 hown hK hR 0 rfl rfl 3 (by decide) (hts (.fieldLink RX2 76 "FeatureStore$Row" "event" "I") (by decide +kernel)) (fun _ h9 => h9) rfl dX2_revised_78 ?_
      refine nv_le (tgt := 105) hx hb dX2_revised_81 (by decide) (by omega) (by omega) (fun c_81 => ?_) (fun c_81 => ?_)
      · refine lv_aload hx hb dX2_revised_105 (lv_at hl 7 rfl) ?_
        refine va_get (D := dD) (ci := 0) (v := .int (nI (s_ev σ x))) (C := RX0) (T := TX0) (N := 7) hx hb hts hinX0 hown hK hR 0 rfl rfl 3 (by decide) (hts (.fieldLink RX2 76 "FeatureStore$Row" "event" "I") (by decide +kernel)) (fun _ h9 => h9) rfl dX2_revised_107 ?_
        refine lv_istore (lv' := [(5, .int (nI (s_ev σ x))), (8, .int (nI (c_ru σ fn x lt_))), (0, .ref x0), (1, .int (nI fn)), (2, .int (nI en)), (3, .int (nI T)), (4, .int (nI cn)), (6, .ref (ra x))]) hx hb dX2_revised_110 hl (by decide) rfl (fun ls hl => ?_)
        refine lv_aload hx hb dX2_revised_112 (lv_at hl 7 rfl) ?_
        refine va_get (D := dD) (ci := 0) (v := va_rf (rfN ra (ol x))) (C := RX0) (T := TX0) (N := 7) hx hb hts hinX0 hown hK hR 0 rfl rfl 6 (by decide) (hts (.fieldLink RX2 87 "FeatureStore$Row" "older" "LFeatureStore$Row;") (by decide +kernel)) (fun _ h9 => h9) rfl dX2_revised_114 ?_
        refine nq_astore (lv' := [(6, va_rf (rfN ra (ol x))), (5, .int (nI (s_ev σ x))), (8, .int (nI (c_ru σ fn x lt_))), (0, .ref x0), (1, .int (nI fn)), (2, .int (nI en)), (3, .int (nI T)), (4, .int (nI cn))]) hx hb dX2_revised_117 hl (by decide) rfl (fun ls hl => ?_)
        refine lv_goto (tgt := 36) hx hb dX2_revised_119 (by decide) ?_
        exact ih (ol x) (cn) (s_ev σ x) hs_.2 (fun y hy => hm_ y (List.mem_cons_of_mem _ hy)) (by omega) (by rw [← hf_]; simp only [c_rev]; rw [if_neg (by omega)]; omega) ls (lv_sub hl [3, 4, 5, 6, 7, 1, 0] rfl)
      · refine lv_iload hx hb dX2_revised_84 (lv_at hl 5 rfl) ?_
        refine lv_iload hx hb dX2_revised_86 (lv_at hl 0 rfl) ?_
        refine lv_iload_n hx hb dX2_revised_88 rfl (lv_at hl 4 rfl) ?_
        refine vp_callSi (va_Run.run (va_runS (As := [.int (nI (c_ru σ fn x lt_)), .int (nI T)]) (rest := [.int (nI cn)]) ⟨hx, hb, hml, hown, hts⟩ (c_X2_multiplesBelow l dD cI cR cS lo (c_ru σ fn x lt_) (T) (by omega) (by omega) (by omega)) (va_cwS 2 hts gX2_revised_X2_multiplesBelow rfl rfl rfl (by decide +kernel) ⟨Nat.le_of_ble_eq_true rfl, Nat.le_of_ble_eq_true rfl⟩) (ePreS hE va_S.rf trivial) rfl rfl hl.1 rfl (lv_room (Nat.le_of_ble_eq_true rfl)) dX2_revised_89 ⟨Nat.le_of_ble_eq_true rfl, Nat.le_of_ble_eq_true rfl⟩)) (fun r_89 hr_89 => ?_)
        subst hr_89
        refine lv_aload hx hb dX2_revised_92 (lv_at hl 7 rfl) ?_
        refine va_get (D := dD) (ci := 0) (v := .int (nI (s_ev σ x))) (C := RX0) (T := TX0) (N := 7) hx hb hts hinX0 hown hK hR 0 rfl rfl 3 (by decide) (hts (.fieldLink RX2 76 "FeatureStore$Row" "event" "I") (by decide +kernel)) (fun _ h9 => h9) rfl dX2_revised_94 ?_
        refine lv_iload_n hx hb dX2_revised_97 rfl (lv_at hl 4 rfl) ?_
        refine vp_callSi (va_Run.run (va_runS (As := [.int (nI (s_ev σ x)), .int (nI T)]) (rest := [.int (nI (c_mb (c_ru σ fn x lt_) (T))), .int (nI cn)]) ⟨hx, hb, hml, hown, hts⟩ (c_X2_multiplesBelow l dD cI cR cS lo (s_ev σ x) (T) (by omega) (by omega) (by omega)) (va_cwS 2 hts gX2_revised_X2_multiplesBelow rfl rfl rfl (by decide +kernel) ⟨Nat.le_of_ble_eq_true rfl, Nat.le_of_ble_eq_true rfl⟩) (ePreS hE va_S.rf trivial) rfl rfl hl.1 rfl (lv_room (Nat.le_of_ble_eq_true rfl)) dX2_revised_98 ⟨Nat.le_of_ble_eq_true rfl, Nat.le_of_ble_eq_true rfl⟩)) (fun r_98 hr_98 => ?_)
        subst hr_98
        refine nv_isub hx hb dX2_revised_101 (c_mb_mono (by omega)) ?_
        refine nv_iadd hx hb dX2_revised_102 ?_
        refine lv_istore (lv' := [(4, .int (nI (cn + ((c_mb (c_ru σ fn x lt_) (T)) - (c_mb (s_ev σ x) (T)))))), (8, .int (nI (c_ru σ fn x lt_))), (0, .ref x0), (1, .int (nI fn)), (2, .int (nI en)), (3, .int (nI T)), (5, .int (nI lt_)), (6, .ref (ra x))]) hx hb dX2_revised_103 hl (by decide) rfl (fun ls hl => ?_)
        refine lv_aload hx hb dX2_revised_105 (lv_at hl 7 rfl) ?_
        refine va_get (D := dD) (ci := 0) (v := .int (nI (s_ev σ x))) (C := RX0) (T := TX0) (N := 7) hx hb hts hinX0 hown hK hR 0 rfl rfl 3 (by decide) (hts (.fieldLink RX2 76 "FeatureStore$Row" "event" "I") (by decide +kernel)) (fun _ h9 => h9) rfl dX2_revised_107 ?_
        refine lv_istore (lv' := [(5, .int (nI (s_ev σ x))), (4, .int (nI (cn + ((c_mb (c_ru σ fn x lt_) (T)) - (c_mb (s_ev σ x) (T)))))), (8, .int (nI (c_ru σ fn x lt_))), (0, .ref x0), (1, .int (nI fn)), (2, .int (nI en)), (3, .int (nI T)), (6, .ref (ra x))]) hx hb dX2_revised_110 hl (by decide) rfl (fun ls hl => ?_)
        refine lv_aload hx hb dX2_revised_112 (lv_at hl 7 rfl) ?_
        refine va_get (D := dD) (ci := 0) (v := va_rf (rfN ra (ol x))) (C := RX0) (T := TX0) (N := 7) hx hb hts hinX0 hown hK hR 0 rfl rfl 6 (by decide) (hts (.fieldLink RX2 87 "FeatureStore$Row" "older" "LFeatureStore$Row;") (by decide +kernel)) (fun _ h9 => h9) rfl dX2_revised_114 ?_
        refine nq_astore (lv' := [(6, va_rf (rfN ra (ol x))), (5, .int (nI (s_ev σ x))), (4, .int (nI (cn + ((c_mb (c_ru σ fn x lt_) (T)) - (c_mb (s_ev σ x) (T)))))), (8, .int (nI (c_ru σ fn x lt_))), (0, .ref x0), (1, .int (nI fn)), (2, .int (nI en)), (3, .int (nI T))]) hx hb dX2_revised_117 hl (by decide) rfl (fun ls hl => ?_)
        refine lv_goto (tgt := 36) hx hb dX2_revised_119 (by decide) ?_
        exact ih (ol x) (cn + ((c_mb (c_ru σ fn x lt_) (T)) - (c_mb (s_ev σ x) (T)))) (s_ev σ x) hs_.2 (fun y hy => hm_ y (List.mem_cons_of_mem _ hy)) (by omega) (by rw [← hf_]; simp only [c_rev]; rw [if_pos (by omega)]; omega) ls (lv_sub hl [4, 5, 6, 7, 2, 1, 0] rfl)
  exact hlp (chn σ (10 * fn + en) (s_n σ)) (hd (10 * fn + en)) 0 (s_now σ + 1) (hX (10 * fn + en) (by omega)) (fun y hy => mem_chn.mp hy) (by omega) (by rw [Nat.zero_add]; have h9 := c_rev_rev hI (10 * fn + en) T (by omega); rw [show (10 * fn + en) / 10 = fn from by omega] at h9; exact h9) ls (lv_sub hl [3, 4, 5, 6, 2, 1, 0] rfl)

set_option maxHeartbeats 4000000 in
set_option maxRecDepth 100000 in
theorem c_X2_skew (l : Launch) (dD : va_G) (cI cR cS : ClassId) (lo : Nat) (x0 : Nat) (b ra sb hd ol : Nat → Nat) (σ : St) (hI : sI σ) (hX : xI σ hd ol) : Met l yX2_skew wsX2_skew ({ frames := 2, cells := 0, slots := 0, locals := 47 }) (ePc dD cI cR cS lo [.ref x0] (fun H => va_P dD vwCl (xW cI cR cS x0 b ra sb hd ol σ) H)) (vp_Si (fun r => r = nI (q_skew σ 60))) 0 0 (fun _ => False) := by
  refine Met.ofW (cc := cX2_skew) (maxL := 4) (ret := (some .int)) (by decide) rfl ?_
  intro p e_ s m args below meth c s₁ B hml hv
  obtain ⟨rfl, hE, hP⟩ := hv
  have hx := B.exec
  have hb := B.bytes
  have hr := B.returns
  have hts := atoms_spec (ws := wsX2_skew) B.pre
  have hown : s.vm.findClass RX2 = some m.cls := findClass_of_methodNamed B.named
  have hlocks := B.notSynchronized
  have hK := hE.1.1
  have hinX2 : ∀ w ∈ u_ws RX2 TX2 9, w ∈ wsX2_skew := by decide +kernel
  obtain ⟨i_now, i_n, i_tk, i_k, i_lt, i_row, i_cp, i_srv⟩ := id hI
  have hl := lv_entry ([.ref x0]) (n := 4) (Nat.le_of_ble_eq_true rfl)
  rw [lg_entry_eq]
  generalize (lg_sl ([.ref x0]) ++ List.replicate (4 - (lg_sl ([.ref x0])).length) Slot.unset).toArray = ls at hl ⊢
  have hl : lv_has ls 4 [(0, .ref x0)] := hl
  refine lv_iconst (v := nI 0) hx hb dX2_skew_0 (by decide +kernel) ?_
  refine lv_istore_n (lv' := [(1, .int (nI 0)), (0, .ref x0)]) hx hb dX2_skew_1 rfl hl (by decide) rfl (fun ls hl => ?_)
  refine lv_iconst (v := nI 0) hx hb dX2_skew_2 (by decide +kernel) ?_
  refine lv_istore_n (lv' := [(2, .int (nI 0)), (1, .int (nI 0)), (0, .ref x0)]) hx hb dX2_skew_3 rfl hl (by decide) rfl (fun ls hl => ?_)
  have hlp : ∀ (d : Nat) (f : Nat), f ≤ 6 → 6 < f + d → ∀ (ls : Array Slot), lv_has ls 4 [(0, .ref x0), (1, .int (nI (q_skew σ (10 * f)))), (2, .int (nI f))] → W p l e_ (headSpec wsX2_skew ({ frames := 2, cells := 0, slots := 0, locals := 47 })).room s m (([.ref x0] : List Value).toArray) below meth c s.heap [] 0 0 (MQ below (vp_Si (fun r => r = nI (q_skew σ 60))) ([.ref x0] : List Value).toArray s 0 0 (fun _ => False)) (F0 m 4 ls []) := by
    intro d
    induction d with
    | zero =>
      intro f hf1 hf2 ls hl
      exact absurd hf2 (by omega)
    | succ d ih =>
      intro f hf1 hf2 ls hl
      refine lv_iload_n hx hb dX2_skew_4 rfl (lv_at hl 2 rfl) ?_
      refine lv_bipush (v := nI 6) hx hb dX2_skew_5 (by decide +kernel) ?_
      refine nv_ge (tgt := 56) hx hb dX2_skew_7 (by decide) (by omega) (by omega) (fun c_7 => ?_) (fun c_7 => ?_)
      · have hre : f = 6 := by omega
        subst hre
        have hl : lv_has ls 4 [(1, .int (nI (q_skew σ 60)))] := lv_sub hl [1] rfl
        refine lv_iload_n hx hb dX2_skew_56 rfl (lv_at hl 0 rfl) ?_
        exact W.iret (v := nI (q_skew σ 60)) hx hb hr (fun u9 hu9 hW => ⟨nI (q_skew σ 60), rfl, rfl, hu9⟩) (fun q h => absurd h List.not_mem_nil) dX2_skew_57
      · refine lv_iconst (v := nI 0) hx hb dX2_skew_10 (by decide +kernel) ?_
        refine lv_istore_n (lv' := [(3, .int (nI 0)), (0, .ref x0), (1, .int (nI (q_skew σ (10 * f)))), (2, .int (nI f))]) hx hb dX2_skew_11 rfl hl (by decide) rfl (fun ls hl => ?_)
        have hlq : ∀ (d2 : Nat) (e : Nat), e ≤ 10 → 10 < e + d2 → ∀ (ls : Array Slot), lv_has ls 4 [(0, .ref x0), (1, .int (nI (q_skew σ (10 * f + e)))), (2, .int (nI f)), (3, .int (nI e))] → W p l e_ (headSpec wsX2_skew ({ frames := 2, cells := 0, slots := 0, locals := 47 })).room s m (([.ref x0] : List Value).toArray) below meth c s.heap [] 0 0 (MQ below (vp_Si (fun r => r = nI (q_skew σ 60))) ([.ref x0] : List Value).toArray s 0 0 (fun _ => False)) (F0 m 12 ls []) := by
          intro d2
          induction d2 with
          | zero =>
            intro e he1 he2 ls hl
            exact absurd he2 (by omega)
          | succ d2 ih2 =>
            intro e he1 he2 ls hl
            refine lv_iload_n hx hb dX2_skew_12 rfl (lv_at hl 3 rfl) ?_
            refine lv_bipush (v := nI 10) hx hb dX2_skew_13 (by decide +kernel) ?_
            refine nv_ge (tgt := 50) hx hb dX2_skew_15 (by decide) (by omega) (by omega) (fun c_15 => ?_) (fun c_15 => ?_)
            · have hre : e = 10 := by omega
              subst hre
              have hl : lv_has ls 4 [(0, .ref x0), (1, .int (nI (q_skew σ (10 * f + 10)))), (2, .int (nI f))] := lv_sub hl [0, 1, 2] rfl
              refine lv_iinc (v := nI (f + 1)) (lv' := [(2, .int (nI (f + 1))), (0, .ref x0), (1, .int (nI (q_skew σ (10 * f + 10))))]) hx hb dX2_skew_50 hl (k := 2) rfl (nv_inc _ 1) (by decide) rfl (fun ls hl => ?_)
              refine lv_goto (tgt := 4) hx hb dX2_skew_53 (by decide) ?_
              exact ih (f + 1) (by omega) (by omega) ls (by rw [show 10 * (f + 1) = 10 * f + 10 from by omega]; exact lv_sub hl [1, 2, 0] rfl)
            · have hz_j := q_join_le σ (10 * f + e) (s_now σ) (s_now σ)
              obtain ⟨hz_1, hz_2⟩ := i_cp (10 * f + e) (by omega)
              have hz_t : q_fr σ (s_cp σ (10 * f + e)) (s_now σ) ≤ s_n σ := q_fr_le (by omega)
              refine lv_aload_n hx hb dX2_skew_18 rfl (lv_at hl 0 rfl) ?_
              refine lv_iload_n hx hb dX2_skew_19 rfl (lv_at hl 2 rfl) ?_
              refine lv_iload_n hx hb dX2_skew_20 rfl (lv_at hl 3 rfl) ?_
              refine vp_callSi (va_Run.run (va_runV (As := [.int (nI f), .int (nI e)]) (rest := []) ⟨hx, hb, hml, hown, hts⟩ (c_X2_tell l dD cI cR cS lo x0 b ra sb hd ol σ hI (f) (e) (by omega) (by omega)) (cwV 2 hts gX2_skew_X2_tell rfl rfl rfl (by decide +kernel) ⟨Nat.le_of_ble_eq_true rfl, Nat.le_of_ble_eq_true rfl⟩) (ePreV hE va_S.rf hP (k := 0) rfl rfl hP) rfl rfl hl.1 rfl (lv_room (Nat.le_of_ble_eq_true rfl)) dX2_skew_21 ⟨Nat.le_of_ble_eq_true rfl, Nat.le_of_ble_eq_true rfl⟩)) (fun r_21 hr_21 => ?_)
              subst hr_21
              refine lv_aload_n hx hb dX2_skew_24 rfl (lv_at hl 0 rfl) ?_
              refine lv_iload_n hx hb dX2_skew_25 rfl (lv_at hl 2 rfl) ?_
              refine lv_iload_n hx hb dX2_skew_26 rfl (lv_at hl 3 rfl) ?_
              refine lv_aload_n hx hb dX2_skew_27 rfl (lv_at hl 0 rfl) ?_
              refine va_get (D := dD) (ci := 2) (v := .int (nI (s_now σ))) (C := RX2) (T := TX2) (N := 9) hx hb hts hinX2 hown hK hP 0 rfl rfl 0 (by decide) (hts (.fieldLink RX2 35 "FeatureStore" "now" "I") (by decide +kernel)) (fun _ h9 => h9) rfl dX2_skew_28 ?_
              refine lv_aload_n hx hb dX2_skew_31 rfl (lv_at hl 0 rfl) ?_
              refine va_get (D := dD) (ci := 2) (v := .int (nI (s_now σ))) (C := RX2) (T := TX2) (N := 9) hx hb hts hinX2 hown hK hP 0 rfl rfl 0 (by decide) (hts (.fieldLink RX2 35 "FeatureStore" "now" "I") (by decide +kernel)) (fun _ h9 => h9) rfl dX2_skew_32 ?_
              refine vp_callSi (va_Run.run (va_runV (As := [.int (nI f), .int (nI e), .int (nI (s_now σ)), .int (nI (s_now σ))]) (rest := [.int (eN (q_fr σ (s_cp σ (10 * f + e)) (s_now σ)))]) ⟨hx, hb, hml, hown, hts⟩ (c_X2_find l dD cI cR cS lo x0 b ra sb hd ol σ hI hX (f) (e) (s_now σ) (s_now σ) (by omega) (by omega) (by omega) (by omega)) (cwV 4 hts gX2_skew_X2_find rfl rfl rfl (by decide +kernel) ⟨Nat.le_of_ble_eq_true rfl, Nat.le_of_ble_eq_true rfl⟩) (ePreV hE va_S.rf hP (k := 0) rfl rfl hP) rfl rfl hl.1 rfl (lv_room (Nat.le_of_ble_eq_true rfl)) dX2_skew_35 ⟨Nat.le_of_ble_eq_true rfl, Nat.le_of_ble_eq_true rfl⟩)) (fun r_35 hr_35 => ?_)
              subst hr_35
              refine nv_eqN (tgt := 44) hx hb dX2_skew_38 (by decide) (by omega) (by omega) (fun c_38 => ?_) (fun c_38 => ?_)
              · refine lv_iinc (v := nI (e + 1)) (lv' := [(3, .int (nI (e + 1))), (0, .ref x0), (1, .int (nI (q_skew σ (10 * f + e)))), (2, .int (nI f))]) hx hb dX2_skew_44 hl (k := 3) rfl (nv_inc _ 1) (by decide) rfl (fun ls hl => ?_)
                refine lv_goto (tgt := 12) hx hb dX2_skew_47 (by decide) ?_
                exact ih2 (e + 1) (by omega) (by omega) ls (by rw [show q_skew σ (10 * f + (e + 1)) = q_skew σ (10 * f + e) from by show q_skew σ (10 * f + e + 1) = _; simp only [q_skew]; rw [if_pos c_38, Nat.add_zero]]; exact lv_sub hl [1, 2, 3, 0] rfl)
              · refine lv_iinc (v := nI (q_skew σ (10 * f + e) + 1)) (lv' := [(1, .int (nI (q_skew σ (10 * f + e) + 1))), (0, .ref x0), (2, .int (nI f)), (3, .int (nI e))]) hx hb dX2_skew_41 hl (k := 1) rfl (nv_inc _ 1) (by decide) rfl (fun ls hl => ?_)
                refine lv_iinc (v := nI (e + 1)) (lv' := [(3, .int (nI (e + 1))), (1, .int (nI (q_skew σ (10 * f + e) + 1))), (0, .ref x0), (2, .int (nI f))]) hx hb dX2_skew_44 hl (k := 3) rfl (nv_inc _ 1) (by decide) rfl (fun ls hl => ?_)
                refine lv_goto (tgt := 12) hx hb dX2_skew_47 (by decide) ?_
                exact ih2 (e + 1) (by omega) (by omega) ls (by rw [show q_skew σ (10 * f + (e + 1)) = q_skew σ (10 * f + e) + 1 from by show q_skew σ (10 * f + e + 1) = _; simp only [q_skew]; rw [if_neg c_38]]; exact lv_sub hl [2, 1, 3, 0] rfl)
        exact hlq 11 0 (by omega) (by omega) ls (lv_sub hl [1, 2, 3, 0] rfl)
  exact hlp 7 0 (by omega) (by omega) ls (lv_sub hl [2, 1, 0] rfl)
