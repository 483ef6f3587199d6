/-! the class: the checks, and what reads (laid by wip/whole/gen/x2ro.py) -/
set_option maxHeartbeats 4000000 in
set_option maxRecDepth 100000 in
theorem c_X2_requireRange (l : Launch) (dD : va_G) (cI cR cS : ClassId) (lo : Nat) (hfl : l.stackTraces = false) (x lw hg : Int32) : vx_Met l yX2_requireRange wsX2_requireRange ({ frames := 6, cells := 1, slots := 6, locals := 82 }) (ePc dD cI cR cS lo [.int x, .int lw, .int hg] (fun H => True)) (va_Sv (fun _ => lw ≤ x ∧ x ≤ hg)) (eX (fun E => E = nIAE ∧ ¬ (lw ≤ x ∧ x ≤ hg))) 1 6 (fun _ => False) := by
  refine vx_ofW (cc := cX2_requireRange) (maxL := 3) (ret := none) (by decide) rfl ?_
  intro p e_ s m args below meth c s₁ B hml hnt hv
  obtain ⟨rfl, hE, hP⟩ := hv
  have hx := B.exec
  have hb := B.bytes
  have hr := B.returns
  have hts := atoms_spec (ws := wsX2_requireRange) B.pre
  have hown : s.vm.findClass RX2 = some m.cls := findClass_of_methodNamed B.named
  have hlocks := B.notSynchronized
  have hK := hE.1.1
  have hl := lv_entry ([.int x, .int lw, .int hg]) (n := 3) (Nat.le_of_ble_eq_true rfl)
  rw [lg_entry_eq]
  generalize (lg_sl ([.int x, .int lw, .int hg]) ++ List.replicate (3 - (lg_sl ([.int x, .int lw, .int hg])).length) Slot.unset).toArray = ls at hl ⊢
  have hl : lv_has ls 3 [(0, .int x), (1, .int lw), (2, .int hg)] := hl
  refine lv_iload_n hx hb dX2_requireRange_0 rfl (lv_at hl 0 rfl) ?_
  refine lv_iload_n hx hb dX2_requireRange_1 rfl (lv_at hl 1 rfl) ?_
  refine lv_icmp_lt (tgt := 10) hx hb dX2_requireRange_2 (by decide) (fun c_2 => ?_) (fun c_2 => ?_)
  · exact nx_throw hx hb hfl hown hml hnt hlocks hts (by decide +kernel) (by decide +kernel) bad_iae ot_iae hE hE.1.2.2.2.2.1 hl dX2_requireRange_10 dX2_requireRange_13 dX2_requireRange_14 dX2_requireRange_16 dX2_requireRange_19 (Nat.le_of_ble_eq_true rfl) (Nat.le_of_ble_eq_true rfl) (Nat.le_of_ble_eq_true rfl) (Nat.le_of_ble_eq_true rfl) (⟨rfl, fun h => absurd c_2 (Int32.not_lt.mpr h.1)⟩) (by decide) (by decide)
  · refine lv_iload_n hx hb dX2_requireRange_5 rfl (lv_at hl 0 rfl) ?_
    refine lv_iload_n hx hb dX2_requireRange_6 rfl (lv_at hl 2 rfl) ?_
    refine lv_icmp_le (tgt := 20) hx hb dX2_requireRange_7 (by decide) (fun c_7 => ?_) (fun c_7 => ?_)
    · exact vx_ret (W.widen (k := 1) (n := 6) (by decide) (by decide) (W.vret hx hb hr (fun u9 hu9 hW => ⟨rfl, ⟨Int32.not_lt.mp c_2, c_7⟩, hu9⟩) (fun q h => absurd h List.not_mem_nil) dX2_requireRange_20))
    · exact nx_throw hx hb hfl hown hml hnt hlocks hts (by decide +kernel) (by decide +kernel) bad_iae ot_iae hE hE.1.2.2.2.2.1 hl dX2_requireRange_10 dX2_requireRange_13 dX2_requireRange_14 dX2_requireRange_16 dX2_requireRange_19 (Nat.le_of_ble_eq_true rfl) (Nat.le_of_ble_eq_true rfl) (Nat.le_of_ble_eq_true rfl) (Nat.le_of_ble_eq_true rfl) (⟨rfl, fun h => absurd h.2 c_7⟩) (by decide) (by decide)

set_option maxHeartbeats 4000000 in
set_option maxRecDepth 100000 in
theorem c_X2_requirePair (l : Launch) (dD : va_G) (cI cR cS : ClassId) (lo : Nat) (hfl : l.stackTraces = false) (f e : Int32) : vx_Met l yX2_requirePair wsX2_requirePair ({ frames := 7, cells := 2, slots := 12, locals := 104 }) (ePc dD cI cR cS lo [.int f, .int e] (fun H => True)) (va_Sv (fun _ => okP f e)) (eX (fun E => E = nIAE ∧ ¬ okP f e)) 2 12 (fun _ => False) := by
  refine vx_ofW (cc := cX2_requirePair) (maxL := 2) (ret := none) (by decide) rfl ?_
  intro p e_ s m args below meth c s₁ B hml hnt hv
  obtain ⟨rfl, hE, hP⟩ := hv
  have hx := B.exec
  have hb := B.bytes
  have hr := B.returns
  have hts := atoms_spec (ws := wsX2_requirePair) B.pre
  have hown : s.vm.findClass RX2 = some m.cls := findClass_of_methodNamed B.named
  have hlocks := B.notSynchronized
  have hK := hE.1.1
  have hl := lv_entry ([.int f, .int e]) (n := 2) (Nat.le_of_ble_eq_true rfl)
  rw [lg_entry_eq]
  generalize (lg_sl ([.int f, .int e]) ++ List.replicate (2 - (lg_sl ([.int f, .int e])).length) Slot.unset).toArray = ls at hl ⊢
  have hl : lv_has ls 2 [(0, .int f), (1, .int e)] := hl
  refine lv_iload_n hx hb dX2_requirePair_0 rfl (lv_at hl 0 rfl) ?_
  refine lv_iconst (v := nI 0) hx hb dX2_requirePair_1 (by decide +kernel) ?_
  refine lv_iconst (v := nI 5) hx hb dX2_requirePair_2 (by decide +kernel) ?_
  refine nx_callv (vx_runS (As := [.int f, .int (nI 0), .int (nI 5)]) (rest := []) ⟨hx, hb, hml, hown, hts⟩ (c_X2_requireRange l dD cI cR cS lo hfl f (nI 0) (nI 5)) (va_cwS 3 hts gX2_requirePair_X2_requireRange rfl rfl rfl (by decide +kernel) ⟨Nat.le_of_ble_eq_true rfl, Nat.le_of_ble_eq_true rfl⟩) (ePreS hE va_S.rf trivial) rfl rfl hl.1 rfl (lv_room (Nat.le_of_ble_eq_true rfl)) dX2_requirePair_3 ⟨Nat.le_of_ble_eq_true rfl, Nat.le_of_ble_eq_true rfl⟩) (fun E ce q9 H1 hX9 hz9 hk9 hc9 hv9 hf9 => vx_out (fun x hx => (hnt x hx).elim) hlocks hc9 hv9 hf9 (fun t9 ht9 _ => ⟨⟨hX9.1, fun h => hX9.2 (h.1)⟩, by rw [ht9]; exact hz9, fun q hq _ => by rw [ht9]; exact hk9 q hq⟩) (fun z hz => absurd hz List.not_mem_nil) (by decide) (by decide)) (fun hr_3 => ?_)
  refine lv_iload_n hx hb dX2_requirePair_6 rfl (lv_at hl 1 rfl) ?_
  refine lv_iconst (v := nI 0) hx hb dX2_requirePair_7 (by decide +kernel) ?_
  refine lv_bipush (v := nI 9) hx hb dX2_requirePair_8 (by decide +kernel) ?_
  refine nx_callv (vx_runS (As := [.int e, .int (nI 0), .int (nI 9)]) (rest := []) ⟨hx, hb, hml, hown, hts⟩ (c_X2_requireRange l dD cI cR cS lo hfl e (nI 0) (nI 9)) (va_cwS 3 hts gX2_requirePair_X2_requireRange rfl rfl rfl (by decide +kernel) ⟨Nat.le_of_ble_eq_true rfl, Nat.le_of_ble_eq_true rfl⟩) (ePreS hE va_S.rf trivial) rfl rfl hl.1 rfl (lv_room (Nat.le_of_ble_eq_true rfl)) dX2_requirePair_10 ⟨Nat.le_of_ble_eq_true rfl, Nat.le_of_ble_eq_true rfl⟩) (fun E ce q9 H1 hX9 hz9 hk9 hc9 hv9 hf9 => vx_out (fun x hx => (hnt x hx).elim) hlocks hc9 hv9 hf9 (fun t9 ht9 _ => ⟨⟨hX9.1, fun h => hX9.2 (h.2)⟩, by rw [ht9]; exact hz9, fun q hq _ => by rw [ht9]; exact hk9 q hq⟩) (fun z hz => absurd hz List.not_mem_nil) (by decide) (by decide)) (fun hr_10 => ?_)
  exact vx_ret (W.widen (k := 2) (n := 12) (by decide) (by decide) (W.vret hx hb hr (fun u9 hu9 hW => ⟨rfl, ⟨hr_3, hr_10⟩, hu9⟩) (fun q h => absurd h List.not_mem_nil) dX2_requirePair_13))

set_option maxHeartbeats 4000000 in
set_option maxRecDepth 100000 in
theorem c_X2_placeOf (l : Launch) (dD : va_G) (cI cR cS : ClassId) (lo : Nat) (f e : Nat) : Met l yX2_placeOf wsX2_placeOf ({ frames := 0, cells := 0, slots := 0, locals := 0 }) (ePc dD cI cR cS lo [.int (nI f), .int (nI e)] (fun H => True)) (vp_Si (fun r => r = nI (10 * f + e))) 0 0 (fun _ => False) := by
  refine Met.ofW (cc := cX2_placeOf) (maxL := 2) (ret := (some .int)) (by decide) rfl ?_
  intro p e_ s m args below meth c s₁ B hml hv
  obtain ⟨rfl, hE, hP⟩ := hv
  have hx := B.exec
  have hb := B.bytes
  have hr := B.returns
  have hts := atoms_spec (ws := wsX2_placeOf) B.pre
  have hown : s.vm.findClass RX2 = some m.cls := findClass_of_methodNamed B.named
  have hlocks := B.notSynchronized
  have hK := hE.1.1
  have hl := lv_entry ([.int (nI f), .int (nI e)]) (n := 2) (Nat.le_of_ble_eq_true rfl)
  rw [lg_entry_eq]
  generalize (lg_sl ([.int (nI f), .int (nI e)]) ++ List.replicate (2 - (lg_sl ([.int (nI f), .int (nI e)])).length) Slot.unset).toArray = ls at hl ⊢
  have hl : lv_has ls 2 [(0, .int (nI f)), (1, .int (nI e))] := hl
  refine lv_iload_n hx hb dX2_placeOf_0 rfl (lv_at hl 0 rfl) ?_
  refine lv_bipush (v := nI 10) hx hb dX2_placeOf_1 (by decide +kernel) ?_
  refine nv_imul hx hb dX2_placeOf_3 ?_
  refine lv_iload_n hx hb dX2_placeOf_4 rfl (lv_at hl 1 rfl) ?_
  refine nv_iadd hx hb dX2_placeOf_5 ?_
  exact W.iret (v := nI ((f * 10) + e)) hx hb hr (fun u9 hu9 hW => ⟨nI ((f * 10) + e), rfl, by rw [Nat.mul_comm], hu9⟩) (fun q h => absurd h List.not_mem_nil) dX2_placeOf_6

set_option maxHeartbeats 4000000 in
set_option maxRecDepth 100000 in
theorem c_X2_multiplesBelow (l : Launch) (dD : va_G) (cI cR cS : ClassId) (lo : Nat) (x T : Nat) (h1 : x ≤ 30000) (h2 : 1 ≤ T) (h3 : T ≤ 10000) : Met l yX2_multiplesBelow wsX2_multiplesBelow ({ frames := 0, cells := 0, slots := 0, locals := 0 }) (ePc dD cI cR cS lo [.int (nI x), .int (nI T)] (fun H => True)) (vp_Si (fun r => r = nI (c_mb x T))) 0 0 (fun _ => False) := by
  refine Met.ofW (cc := cX2_multiplesBelow) (maxL := 2) (ret := (some .int)) (by decide) rfl ?_
  intro p e_ s m args below meth c s₁ B hml hv
  obtain ⟨rfl, hE, hP⟩ := hv
  have hx := B.exec
  have hb := B.bytes
  have hr := B.returns
  have hts := atoms_spec (ws := wsX2_multiplesBelow) B.pre
  have hown : s.vm.findClass RX2 = some m.cls := findClass_of_methodNamed B.named
  have hlocks := B.notSynchronized
  have hK := hE.1.1
  have hl := lv_entry ([.int (nI x), .int (nI T)]) (n := 2) (Nat.le_of_ble_eq_true rfl)
  rw [lg_entry_eq]
  generalize (lg_sl ([.int (nI x), .int (nI T)]) ++ List.replicate (2 - (lg_sl ([.int (nI x), .int (nI T)])).length) Slot.unset).toArray = ls at hl ⊢
  have hl : lv_has ls 2 [(0, .int (nI x)), (1, .int (nI T))] := hl
  refine lv_iload_n hx hb dX2_multiplesBelow_0 rfl (lv_at hl 0 rfl) ?_
  refine lv_iload_n hx hb dX2_multiplesBelow_1 rfl (lv_at hl 1 rfl) ?_
  refine nv_iadd hx hb dX2_multiplesBelow_2 ?_
  refine lv_iconst (v := nI 1) hx hb dX2_multiplesBelow_3 (by decide +kernel) ?_
  refine nv_isub hx hb dX2_multiplesBelow_4 (by omega) ?_
  refine lv_iload_n hx hb dX2_multiplesBelow_5 rfl (lv_at hl 1 rfl) ?_
  refine nv_idiv hx hb dX2_multiplesBelow_6 (by omega) (by omega) (by omega) ?_
  exact W.iret (v := nI (((x + T) - 1) / T)) hx hb hr (fun u9 hu9 hW => ⟨nI (((x + T) - 1) / T), rfl, rfl, hu9⟩) (fun q h => absurd h List.not_mem_nil) dX2_multiplesBelow_7

set_option maxHeartbeats 4000000 in
set_option maxRecDepth 100000 in
theorem c_X2_now (l : Launch) (dD : va_G) (cI cR cS : ClassId) (lo : Nat) (x0 : Nat) (b ra sb hd ol : Nat → Nat) (σ : St) (hI : sI σ) : Met l yX2_now wsX2_now ({ frames := 0, cells := 0, slots := 0, locals := 0 }) (ePc dD cI cR cS lo [.ref x0] (fun H => va_P dD vwCl (xW cI cR cS x0 b ra sb hd ol σ) H)) (vp_Si (fun r => r = nI (s_now σ))) 0 0 (fun _ => False) := by
  refine Met.ofW (cc := cX2_now) (maxL := 1) (ret := (some .int)) (by decide) rfl ?_
  intro p e_ s m args below meth c s₁ B hml hv
  obtain ⟨rfl, hE, hP⟩ := hv
  have hx := B.exec
  have hb := B.bytes
  have hr := B.returns
  have hts := atoms_spec (ws := wsX2_now) B.pre
  have hown : s.vm.findClass RX2 = some m.cls := findClass_of_methodNamed B.named
  have hlocks := B.notSynchronized
  have hK := hE.1.1
  have hinX2 : ∀ w ∈ u_ws RX2 TX2 9, w ∈ wsX2_now := by decide +kernel
  obtain ⟨i_now, i_n, i_tk, i_k, i_lt, i_row, i_cp, i_srv⟩ := id hI
  have hl := lv_entry ([.ref x0]) (n := 1) (Nat.le_of_ble_eq_true rfl)
  rw [lg_entry_eq]
  generalize (lg_sl ([.ref x0]) ++ List.replicate (1 - (lg_sl ([.ref x0])).length) Slot.unset).toArray = ls at hl ⊢
  have hl : lv_has ls 1 [(0, .ref x0)] := hl
  refine lv_aload_n hx hb dX2_now_0 rfl (lv_at hl 0 rfl) ?_
  refine va_get (D := dD) (ci := 2) (v := .int (nI (s_now σ))) (C := RX2) (T := TX2) (N := 9) hx hb hts hinX2 hown hK hP 0 rfl rfl 0 (by decide) (hts (.fieldLink RX2 35 "FeatureStore" "now" "I") (by decide +kernel)) (fun _ h9 => h9) rfl dX2_now_1 ?_
  exact W.iret (v := nI (s_now σ)) hx hb hr (fun u9 hu9 hW => ⟨nI (s_now σ), rfl, rfl, hu9⟩) (fun q h => absurd h List.not_mem_nil) dX2_now_4

set_option maxHeartbeats 4000000 in
set_option maxRecDepth 100000 in
theorem c_X2_rows (l : Launch) (dD : va_G) (cI cR cS : ClassId) (lo : Nat) (x0 : Nat) (b ra sb hd ol : Nat → Nat) (σ : St) (hI : sI σ) : Met l yX2_rows wsX2_rows ({ frames := 0, cells := 0, slots := 0, locals := 0 }) (ePc dD cI cR cS lo [.ref x0] (fun H => va_P dD vwCl (xW cI cR cS x0 b ra sb hd ol σ) H)) (vp_Si (fun r => r = nI (s_n σ))) 0 0 (fun _ => False) := by
  refine Met.ofW (cc := cX2_rows) (maxL := 1) (ret := (some .int)) (by decide) rfl ?_
  intro p e_ s m args below meth c s₁ B hml hv
  obtain ⟨rfl, hE, hP⟩ := hv
  have hx := B.exec
  have hb := B.bytes
  have hr := B.returns
  have hts := atoms_spec (ws := wsX2_rows) B.pre
  have hown : s.vm.findClass RX2 = some m.cls := findClass_of_methodNamed B.named
  have hlocks := B.notSynchronized
  have hK := hE.1.1
  have hinX2 : ∀ w ∈ u_ws RX2 TX2 9, w ∈ wsX2_rows := by decide +kernel
  obtain ⟨i_now, i_n, i_tk, i_k, i_lt, i_row, i_cp, i_srv⟩ := id hI
  have hl := lv_entry ([.ref x0]) (n := 1) (Nat.le_of_ble_eq_true rfl)
  rw [lg_entry_eq]
  generalize (lg_sl ([.ref x0]) ++ List.replicate (1 - (lg_sl ([.ref x0])).length) Slot.unset).toArray = ls at hl ⊢
  have hl : lv_has ls 1 [(0, .ref x0)] := hl
  refine lv_aload_n hx hb dX2_rows_0 rfl (lv_at hl 0 rfl) ?_
  refine va_get (D := dD) (ci := 2) (v := .int (nI (s_n σ))) (C := RX2) (T := TX2) (N := 9) hx hb hts hinX2 hown hK hP 0 rfl rfl 3 (by decide) (hts (.fieldLink RX2 44 "FeatureStore" "rowCount" "I") (by decide +kernel)) (fun _ h9 => h9) rfl dX2_rows_1 ?_
  exact W.iret (v := nI (s_n σ)) hx hb hr (fun u9 hu9 hW => ⟨nI (s_n σ), rfl, rfl, hu9⟩) (fun q h => absurd h List.not_mem_nil) dX2_rows_4

set_option maxHeartbeats 4000000 in
set_option maxRecDepth 100000 in
theorem c_X2_servings (l : Launch) (dD : va_G) (cI cR cS : ClassId) (lo : Nat) (x0 : Nat) (b ra sb hd ol : Nat → Nat) (σ : St) (hI : sI σ) : Met l yX2_servings wsX2_servings ({ frames := 0, cells := 0, slots := 0, locals := 0 }) (ePc dD cI cR cS lo [.ref x0] (fun H => va_P dD vwCl (xW cI cR cS x0 b ra sb hd ol σ) H)) (vp_Si (fun r => r = nI (s_k σ))) 0 0 (fun _ => False) := by
  refine Met.ofW (cc := cX2_servings) (maxL := 1) (ret := (some .int)) (by decide) rfl ?_
  intro p e_ s m args below meth c s₁ B hml hv
  obtain ⟨rfl, hE, hP⟩ := hv
  have hx := B.exec
  have hb := B.bytes
  have hr := B.returns
  have hts := atoms_spec (ws := wsX2_servings) B.pre
  have hown : s.vm.findClass RX2 = some m.cls := findClass_of_methodNamed B.named
  have hlocks := B.notSynchronized
  have hK := hE.1.1
  have hinX2 : ∀ w ∈ u_ws RX2 TX2 9, w ∈ wsX2_servings := by decide +kernel
  obtain ⟨i_now, i_n, i_tk, i_k, i_lt, i_row, i_cp, i_srv⟩ := id hI
  have hl := lv_entry ([.ref x0]) (n := 1) (Nat.le_of_ble_eq_true rfl)
  rw [lg_entry_eq]
  generalize (lg_sl ([.ref x0]) ++ List.replicate (1 - (lg_sl ([.ref x0])).length) Slot.unset).toArray = ls at hl ⊢
  have hl : lv_has ls 1 [(0, .ref x0)] := hl
  refine lv_aload_n hx hb dX2_servings_0 rfl (lv_at hl 0 rfl) ?_
  refine va_get (D := dD) (ci := 2) (v := .int (nI (s_k σ))) (C := RX2) (T := TX2) (N := 9) hx hb hts hinX2 hown hK hP 0 rfl rfl 8 (by decide) (hts (.fieldLink RX2 114 "FeatureStore" "servingCount" "I") (by decide +kernel)) (fun _ h9 => h9) rfl dX2_servings_1 ?_
  exact W.iret (v := nI (s_k σ)) hx hb hr (fun u9 hu9 hW => ⟨nI (s_k σ), rfl, rfl, hu9⟩) (fun q h => absurd h List.not_mem_nil) dX2_servings_4

set_option maxHeartbeats 4000000 in
set_option maxRecDepth 100000 in
theorem c_X2_lag (l : Launch) (dD : va_G) (cI cR cS : ClassId) (lo : Nat) (x0 : Nat) (b ra sb hd ol : Nat → Nat) (σ : St) (hI : sI σ) : Met l yX2_lag wsX2_lag ({ frames := 0, cells := 0, slots := 0, locals := 0 }) (ePc dD cI cR cS lo [.ref x0] (fun H => va_P dD vwCl (xW cI cR cS x0 b ra sb hd ol σ) H)) (vp_Si (fun r => r = nI (s_n σ - s_tk σ))) 0 0 (fun _ => False) := by
  refine Met.ofW (cc := cX2_lag) (maxL := 1) (ret := (some .int)) (by decide) rfl ?_
  intro p e_ s m args below meth c s₁ B hml hv
  obtain ⟨rfl, hE, hP⟩ := hv
  have hx := B.exec
  have hb := B.bytes
  have hr := B.returns
  have hts := atoms_spec (ws := wsX2_lag) B.pre
  have hown : s.vm.findClass RX2 = some m.cls := findClass_of_methodNamed B.named
  have hlocks := B.notSynchronized
  have hK := hE.1.1
  have hinX2 : ∀ w ∈ u_ws RX2 TX2 9, w ∈ wsX2_lag := by decide +kernel
  obtain ⟨i_now, i_n, i_tk, i_k, i_lt, i_row, i_cp, i_srv⟩ := id hI
  have hl := lv_entry ([.ref x0]) (n := 1) (Nat.le_of_ble_eq_true rfl)
  rw [lg_entry_eq]
  generalize (lg_sl ([.ref x0]) ++ List.replicate (1 - (lg_sl ([.ref x0])).length) Slot.unset).toArray = ls at hl ⊢
  have hl : lv_has ls 1 [(0, .ref x0)] := hl
  refine lv_aload_n hx hb dX2_lag_0 rfl (lv_at hl 0 rfl) ?_
  refine va_get (D := dD) (ci := 2) (v := .int (nI (s_n σ))) (C := RX2) (T := TX2) (N := 9) hx hb hts hinX2 hown hK hP 0 rfl rfl 3 (by decide) (hts (.fieldLink RX2 44 "FeatureStore" "rowCount" "I") (by decide +kernel)) (fun _ h9 => h9) rfl dX2_lag_1 ?_
  refine lv_aload_n hx hb dX2_lag_4 rfl (lv_at hl 0 rfl) ?_
  refine va_get (D := dD) (ci := 2) (v := .int (nI (s_tk σ))) (C := RX2) (T := TX2) (N := 9) hx hb hts hinX2 hown hK hP 0 rfl rfl 6 (by decide) (hts (.fieldLink RX2 102 "FeatureStore" "taken" "I") (by decide +kernel)) (fun _ h9 => h9) rfl dX2_lag_5 ?_
  refine nv_isub hx hb dX2_lag_8 (by omega) ?_
  exact W.iret (v := nI ((s_n σ) - (s_tk σ))) hx hb hr (fun u9 hu9 hW => ⟨nI ((s_n σ) - (s_tk σ)), rfl, rfl, hu9⟩) (fun q h => absurd h List.not_mem_nil) dX2_lag_9

set_option maxHeartbeats 4000000 in
set_option maxRecDepth 100000 in
theorem c_X2_nue0 (l : Launch) (dD : va_G) (cI cR cS : ClassId) (lo : Nat) (x0 : Nat) (b ra sb hd ol : Nat → Nat) (σ : St) (hI : sI σ) (t : Nat) (ht : t ≤ 10000) : Met l yX2_numberUnlessExpired wsX2_numberUnlessExpired ({ frames := 0, cells := 0, slots := 0, locals := 0 }) (ePc dD cI cR cS lo [.ref x0, va_rf (rfN ra 0), .int (nI t)] (fun H => va_P dD vwCl (xW cI cR cS x0 b ra sb hd ol σ) H)) (vp_Si (fun r => r = eN (q_fr σ 0 t))) 0 0 (fun _ => False) := by
  refine Met.ofW (cc := cX2_numberUnlessExpired) (maxL := 3) (ret := (some .int)) (by decide) rfl ?_
  intro p e_ s m args below meth c s₁ B hml hv
  obtain ⟨rfl, hE, hP⟩ := hv
  have hx := B.exec
  have hb := B.bytes
  have hr := B.returns
  have hts := atoms_spec (ws := wsX2_numberUnlessExpired) B.pre
  have hown : s.vm.findClass RX2 = some m.cls := findClass_of_methodNamed B.named
  have hlocks := B.notSynchronized
  have hK := hE.1.1
  obtain ⟨i_now, i_n, i_tk, i_k, i_lt, i_row, i_cp, i_srv⟩ := id hI
  have hl := lv_entry ([.ref x0, va_rf (rfN ra 0), .int (nI t)]) (n := 3) (Nat.le_of_ble_eq_true rfl)
  rw [lg_entry_eq]
  generalize (lg_sl ([.ref x0, va_rf (rfN ra 0), .int (nI t)]) ++ List.replicate (3 - (lg_sl ([.ref x0, va_rf (rfN ra 0), .int (nI t)])).length) Slot.unset).toArray = ls at hl ⊢
  have hl : lv_has ls 3 [(0, .ref x0), (1, va_rf (rfN ra 0)), (2, .int (nI t))] := hl
  have hl : lv_has ls 3 [(0, .ref x0), (1, .null), (2, .int (nI t))] := hl
  refine lv_aload_nN hx hb dX2_numberUnlessExpired_0 rfl (lv_at hl 1 rfl) ?_
  refine lv_ifnullN (tgt := 22) hx hb dX2_numberUnlessExpired_1 (by decide) ?_
  refine lv_iconst (v := (-1)) hx hb dX2_numberUnlessExpired_22 (by decide +kernel) ?_
  exact W.iret (v := ((-1))) hx hb hr (fun u9 hu9 hW => ⟨((-1)), rfl, rfl, hu9⟩) (fun q h => absurd h List.not_mem_nil) dX2_numberUnlessExpired_23

set_option maxHeartbeats 4000000 in
set_option maxRecDepth 100000 in
theorem c_X2_nue1 (l : Launch) (dD : va_G) (cI cR cS : ClassId) (lo : Nat) (x0 : Nat) (b ra sb hd ol : Nat → Nat) (σ : St) (hI : sI σ) (o t : Nat) (ho : o + 1 ≤ s_n σ) (ht : t ≤ 10000) (hev : s_ev σ o ≤ t) : Met l yX2_numberUnlessExpired wsX2_numberUnlessExpired ({ frames := 0, cells := 0, slots := 0, locals := 0 }) (ePc dD cI cR cS lo [.ref x0, va_rf (rfN ra (o + 1)), .int (nI t)] (fun H => va_P dD vwCl (xW cI cR cS x0 b ra sb hd ol σ) H)) (vp_Si (fun r => r = eN (q_fr σ (o + 1) t))) 0 0 (fun _ => False) := by
  refine Met.ofW (cc := cX2_numberUnlessExpired) (maxL := 3) (ret := (some .int)) (by decide) rfl ?_
  intro p e_ s m args below meth c s₁ B hml hv
  obtain ⟨rfl, hE, hP⟩ := hv
  have hx := B.exec
  have hb := B.bytes
  have hr := B.returns
  have hts := atoms_spec (ws := wsX2_numberUnlessExpired) B.pre
  have hown : s.vm.findClass RX2 = some m.cls := findClass_of_methodNamed B.named
  have hlocks := B.notSynchronized
  have hK := hE.1.1
  have hinX0 : ∀ w ∈ u_ws RX0 TX0 7, w ∈ wsX2_numberUnlessExpired := by decide +kernel
  have hinX2 : ∀ w ∈ u_ws RX2 TX2 9, w ∈ wsX2_numberUnlessExpired := by decide +kernel
  obtain ⟨i_now, i_n, i_tk, i_k, i_lt, i_row, i_cp, i_srv⟩ := id hI
  have hl := lv_entry ([.ref x0, va_rf (rfN ra (o + 1)), .int (nI t)]) (n := 3) (Nat.le_of_ble_eq_true rfl)
  rw [lg_entry_eq]
  generalize (lg_sl ([.ref x0, va_rf (rfN ra (o + 1)), .int (nI t)]) ++ List.replicate (3 - (lg_sl ([.ref x0, va_rf (rfN ra (o + 1)), .int (nI t)])).length) Slot.unset).toArray = ls at hl ⊢
  have hl : lv_has ls 3 [(0, .ref x0), (1, va_rf (rfN ra (o + 1))), (2, .int (nI t))] := hl
  have hl : lv_has ls 3 [(0, .ref x0), (1, .ref (ra o)), (2, .int (nI t))] := hl
  have hz_o : o < s_n σ := by omega
  obtain ⟨hz_1, hz_2, hz_3, hz_4⟩ := i_row o hz_o
  have hz_5 := i_lt (s_pr σ o / 10) (by omega)
  have hR := xRow hP hz_o
  refine lv_aload_n hx hb dX2_numberUnlessExpired_0 rfl (lv_at hl 1 rfl) ?_
  refine lv_ifnull hx hb dX2_numberUnlessExpired_1 ?_
  refine lv_iload_n hx hb dX2_numberUnlessExpired_4 rfl (lv_at hl 2 rfl) ?_
  refine lv_aload_n hx hb dX2_numberUnlessExpired_5 rfl (lv_at hl 1 rfl) ?_
  refine va_get (D := dD) (ci := 0) (v := .int (nI (s_ev σ o))) (C := RX0) (T := TX0) (N := 7) hx hb hts hinX0 hown hK hR 0 rfl rfl 3 (by decide) (hts (.fieldLink RX2 76 "FeatureStore$Row" "event" "I") (by decide +kernel)) (fun _ h9 => h9) rfl dX2_numberUnlessExpired_6 ?_
  refine nv_isub hx hb dX2_numberUnlessExpired_9 (by omega) ?_
  refine lv_aload_n hx hb dX2_numberUnlessExpired_10 rfl (lv_at hl 0 rfl) ?_
  refine va_get (D := dD) (ci := 2) (v := .ref (b 0)) (C := RX2) (T := TX2) (N := 9) hx hb hts hinX2 hown hK hP 0 rfl rfl 1 (by decide) (hts (.fieldLink RX2 9 "FeatureStore" "lifetimes" "[I") (by decide +kernel)) (fun _ h9 => h9) rfl dX2_numberUnlessExpired_11 ?_
  refine lv_aload_n hx hb dX2_numberUnlessExpired_14 rfl (lv_at hl 1 rfl) ?_
  refine va_get (D := dD) (ci := 0) (v := .int (nI (s_pr σ o / 10))) (C := RX0) (T := TX0) (N := 7) hx hb hts hinX0 hown hK hR 0 rfl rfl 1 (by decide) (hts (.fieldLink RX2 154 "FeatureStore$Row" "feature" "I") (by decide +kernel)) (fun _ h9 => h9) rfl dX2_numberUnlessExpired_15 ?_
  refine nv_iald (q0 := 1) (t0 := 0) (s_lt σ) hx hb hK hP rfl rfl (by omega) (by decide) dX2_numberUnlessExpired_18 ?_
  refine nv_le (tgt := 24) hx hb dX2_numberUnlessExpired_19 (by decide) (by omega) (by omega) (fun c_19 => ?_) (fun c_19 => ?_)
  · refine lv_aload_n hx hb dX2_numberUnlessExpired_24 rfl (lv_at hl 1 rfl) ?_
    refine va_get (D := dD) (ci := 0) (v := .int (nI o)) (C := RX0) (T := TX0) (N := 7) hx hb hts hinX0 hown hK hR 0 rfl rfl 0 (by decide) (hts (.fieldLink RX2 61 "FeatureStore$Row" "number" "I") (by decide +kernel)) (fun _ h9 => h9) rfl dX2_numberUnlessExpired_25 ?_
    exact W.iret (v := nI o) hx hb hr (fun u9 hu9 hW => ⟨nI o, rfl, by simp only [q_fr, if_neg (Nat.succ_ne_zero o), Nat.add_sub_cancel]; rw [if_pos (by omega)]; rfl, hu9⟩) (fun q h => absurd h List.not_mem_nil) dX2_numberUnlessExpired_28
  · refine lv_iconst (v := (-1)) hx hb dX2_numberUnlessExpired_22 (by decide +kernel) ?_
    exact W.iret (v := ((-1))) hx hb hr (fun u9 hu9 hW => ⟨((-1)), rfl, by simp only [q_fr, if_neg (Nat.succ_ne_zero o), Nat.add_sub_cancel]; rw [if_neg (by omega)]; rfl, hu9⟩) (fun q h => absurd h List.not_mem_nil) dX2_numberUnlessExpired_23

theorem c_X2_nue (l : Launch) (dD : va_G) (cI cR cS : ClassId) (lo : Nat) (x0 : Nat) (b ra sb hd ol : Nat → Nat) (σ : St) (hI : sI σ) (o t : Nat) (ho : o ≤ s_n σ) (ht : t ≤ 10000) (hev : ∀ r, o = r + 1 → s_ev σ r ≤ t) : Met l yX2_numberUnlessExpired wsX2_numberUnlessExpired ({ frames := 0, cells := 0, slots := 0, locals := 0 }) (ePc dD cI cR cS lo [.ref x0, va_rf (rfN ra o), .int (nI t)] (fun H => va_P dD vwCl (xW cI cR cS x0 b ra sb hd ol σ) H)) (vp_Si (fun r => r = eN (q_fr σ o t))) 0 0 (fun _ => False) := by
  cases o with
  | zero => exact c_X2_nue0 l dD cI cR cS lo x0 b ra sb hd ol σ hI t ht
  | succ o => exact c_X2_nue1 l dD cI cR cS lo x0 b ra sb hd ol σ hI o t ho ht (hev o rfl)

set_option maxHeartbeats 4000000 in
set_option maxRecDepth 100000 in
theorem c_X2_find (l : Launch) (dD : va_G) (cI cR cS : ClassId) (lo : Nat) (x0 : Nat) (b ra sb hd ol : Nat → Nat) (σ : St) (hI : sI σ) (hX : xI σ hd ol) (f e t k : Nat) (hf : f < 6) (he : e < 10) (ht : t ≤ 10000) (hk : k ≤ 10000) : Met l yX2_find wsX2_find ({ frames := 1, cells := 0, slots := 0, locals := 22 }) (ePc dD cI cR cS lo [.ref x0, .int (nI f), .int (nI e), .int (nI t), .int (nI k)] (fun H => va_P dD vwCl (xW cI cR cS x0 b ra sb hd ol σ) H)) (vp_Si (fun r => r = eN (q_join σ (10 * f + e) t k))) 0 0 (fun _ => False) := by
  refine Met.ofW (cc := cX2_find) (maxL := 6) (ret := (some .int)) (by decide) rfl ?_
  intro p e_ s m args below meth c s₁ B hml hv
  obtain ⟨rfl, hE, hP⟩ := hv
  have hx := B.exec
  have hb := B.bytes
  have hr := B.returns
  have hts := atoms_spec (ws := wsX2_find) B.pre
  have hown : s.vm.findClass RX2 = some m.cls := findClass_of_methodNamed B.named
  have hlocks := B.notSynchronized
  have hK := hE.1.1
  have hinX0 : ∀ w ∈ u_ws RX0 TX0 7, w ∈ wsX2_find := by decide +kernel
  have hinX2 : ∀ w ∈ u_ws RX2 TX2 9, w ∈ wsX2_find := by decide +kernel
  obtain ⟨i_now, i_n, i_tk, i_k, i_lt, i_row, i_cp, i_srv⟩ := id hI
  have hl := lv_entry ([.ref x0, .int (nI f), .int (nI e), .int (nI t), .int (nI k)]) (n := 6) (Nat.le_of_ble_eq_true rfl)
  rw [lg_entry_eq]
  generalize (lg_sl ([.ref x0, .int (nI f), .int (nI e), .int (nI t), .int (nI k)]) ++ List.replicate (6 - (lg_sl ([.ref x0, .int (nI f), .int (nI e), .int (nI t), .int (nI k)])).length) Slot.unset).toArray = ls at hl ⊢
  have hl : lv_has ls 6 [(0, .ref x0), (1, .int (nI f)), (2, .int (nI e)), (3, .int (nI t)), (4, .int (nI k))] := hl
  refine lv_aload_n hx hb dX2_find_0 rfl (lv_at hl 0 rfl) ?_
  refine va_get (D := dD) (ci := 2) (v := .ref (b 2)) (C := RX2) (T := TX2) (N := 9) hx hb hts hinX2 hown hK hP 0 rfl rfl 4 (by decide) (hts (.fieldLink RX2 19 "FeatureStore" "latest" "[LFeatureStore$Row;") (by decide +kernel)) (fun _ h9 => h9) rfl dX2_find_1 ?_
  refine lv_iload_n hx hb dX2_find_4 rfl (lv_at hl 1 rfl) ?_
  refine lv_iload_n hx hb dX2_find_5 rfl (lv_at hl 2 rfl) ?_
  refine vp_callSi (va_Run.run (va_runS (As := [.int (nI f), .int (nI e)]) (rest := [.ref (b 2)]) ⟨hx, hb, hml, hown, hts⟩ (c_X2_placeOf l dD cI cR cS lo f e) (va_cwS 2 hts gX2_find_X2_placeOf rfl rfl rfl (by decide +kernel) ⟨Nat.le_of_ble_eq_true rfl, Nat.le_of_ble_eq_true rfl⟩) (ePreS hE va_S.rf trivial) rfl rfl hl.1 rfl (lv_room (Nat.le_of_ble_eq_true rfl)) dX2_find_6 ⟨Nat.le_of_ble_eq_true rfl, Nat.le_of_ble_eq_true rfl⟩)) (fun r_6 hr_6 => ?_)
  subst hr_6
  refine nq_aald (q0 := 3) (t0 := 1) (fun j => rfN ra (hd j)) hx hb hK hP rfl rfl (by omega) (by decide) dX2_find_9 ?_
  refine nq_astore (lv' := [(5, va_rf (rfN ra (hd (10 * f + e)))), (0, .ref x0), (1, .int (nI f)), (2, .int (nI e)), (3, .int (nI t)), (4, .int (nI k))]) hx hb dX2_find_10 hl (by decide) rfl (fun ls hl => ?_)
  have hlp : ∀ (li : List Nat) (o : Nat), seg ol o li → (∀ y ∈ li, y < s_n σ) → c_first σ t k li = q_best σ (10 * f + e) t k (s_n σ) → ∀ (ls : Array Slot), lv_has ls 6 [(0, .ref x0), (1, .int (nI f)), (2, .int (nI e)), (3, .int (nI t)), (4, .int (nI k)), (5, va_rf (rfN ra o))] → W p l e_ (headSpec wsX2_find ({ frames := 1, cells := 0, slots := 0, locals := 22 })).room s m (([.ref x0, .int (nI f), .int (nI e), .int (nI t), .int (nI k)] : List Value).toArray) below meth c s.heap [] 0 0 (MQ below (vp_Si (fun r => r = eN (q_join σ (10 * f + e) t k))) ([.ref x0, .int (nI f), .int (nI e), .int (nI t), .int (nI k)] : List Value).toArray s 0 0 (fun _ => False)) (F0 m 12 ls []) := by
    intro li
    induction li with
    | nil =>
      intro o hs_ hm_ hf_ ls hl
      have ho_ : o = 0 := hs_
      subst ho_
      have hl : lv_has ls 6 [(0, .ref x0), (1, .int (nI f)), (2, .int (nI e)), (3, .int (nI t)), (4, .int (nI k)), (5, .null)] := hl
      refine lv_aloadN hx hb dX2_find_12 (lv_at hl 5 rfl) ?_
      refine lv_ifnullN (tgt := 46) hx hb dX2_find_14 (by decide) ?_
      refine lv_aload_n hx hb dX2_find_46 rfl (lv_at hl 0 rfl) ?_
      refine lv_aloadN hx hb dX2_find_47 (lv_at hl 5 rfl) ?_
      refine lv_iload_n hx hb dX2_find_49 rfl (lv_at hl 3 rfl) ?_
      refine vp_callSi (va_Run.run (va_runV (As := [va_rf (rfN ra 0), .int (nI t)]) (rest := []) ⟨hx, hb, hml, hown, hts⟩ (c_X2_nue l dD cI cR cS lo x0 b ra sb hd ol σ hI (0) (t) (by omega) ht (fun r hr => by omega)) (cwV 2 hts gX2_find_X2_numberUnlessExpired rfl rfl rfl (by decide +kernel) ⟨Nat.le_of_ble_eq_true rfl, Nat.le_of_ble_eq_true rfl⟩) (ePreV hE va_S.rf hP (k := 0) rfl rfl hP) rfl rfl hl.1 rfl (lv_room (Nat.le_of_ble_eq_true rfl)) dX2_find_50 ⟨Nat.le_of_ble_eq_true rfl, Nat.le_of_ble_eq_true rfl⟩)) (fun r_50 hr_50 => ?_)
      subst hr_50
      exact W.iret (v := eN (q_fr σ (0) t)) hx hb hr (fun u9 hu9 hW => ⟨eN (q_fr σ (0) t), rfl, by unfold q_join; rw [← hf_]; rfl, hu9⟩) (fun q h => absurd h List.not_mem_nil) dX2_find_53
    | cons x li ih =>
      intro o hs_ hm_ hf_ ls hl
      have ho_ : o = x + 1 := hs_.1
      subst ho_
      have hz_x := hm_ x List.mem_cons_self
      obtain ⟨hz_1, hz_2, hz_3, hz_4⟩ := i_row x hz_x
      have hR := xRow hP hz_x
      have hl : lv_has ls 6 [(0, .ref x0), (1, .int (nI f)), (2, .int (nI e)), (3, .int (nI t)), (4, .int (nI k)), (5, .ref (ra x))] := hl
      refine lv_aload hx hb dX2_find_12 (lv_at hl 5 rfl) ?_
      refine lv_ifnull hx hb dX2_find_14 ?_
      refine lv_aload hx hb dX2_find_17 (lv_at hl 5 rfl) ?_
      refine va_get (D := dD) (ci := 0) (v := .int (nI (s_ev σ x))) (C := RX0) (T := TX0) (N := 7) hx hb hts hinX0 hown hK hR 0 rfl rfl 3 (by decide) (hts (.fieldLink RX2 76 "FeatureStore$Row" "event" "I") (by decide +kernel)) (fun _ h9 => h9) rfl dX2_find_19 ?_
      refine lv_iload_n hx hb dX2_find_22 rfl (lv_at hl 3 rfl) ?_
      refine nv_gt (tgt := 36) hx hb dX2_find_23 (by decide) (by omega) (by omega) (fun c_23 => ?_) (fun c_23 => ?_)
      · refine lv_aload hx hb dX2_find_36 (lv_at hl 5 rfl) ?_
        refine va_get (D := dD) (ci := 0) (v := va_rf (rfN ra (ol x))) (C := RX0) (T := TX0) (N := 7) hx hb hts hinX0 hown hK hR 0 rfl rfl 6 (by decide) (hts (.fieldLink RX2 87 "FeatureStore$Row" "older" "LFeatureStore$Row;") (by decide +kernel)) (fun _ h9 => h9) rfl dX2_find_38 ?_
        refine nq_astore (lv' := [(5, va_rf (rfN ra (ol x))), (0, .ref x0), (1, .int (nI f)), (2, .int (nI e)), (3, .int (nI t)), (4, .int (nI k))]) hx hb dX2_find_41 hl (by decide) rfl (fun ls hl => ?_)
        refine lv_goto (tgt := 12) hx hb dX2_find_43 (by decide) ?_
        exact ih (ol x) hs_.2 (fun y hy => hm_ y (List.mem_cons_of_mem _ hy)) (by rw [← hf_]; simp only [c_first]; rw [if_neg (by omega)]) ls (lv_sub hl [1, 2, 3, 4, 5, 0] rfl)
      · refine lv_aload hx hb dX2_find_26 (lv_at hl 5 rfl) ?_
        refine va_get (D := dD) (ci := 0) (v := .int (nI (s_ar σ x))) (C := RX0) (T := TX0) (N := 7) hx hb hts hinX0 hown hK hR 0 rfl rfl 4 (by decide) (hts (.fieldLink RX2 73 "FeatureStore$Row" "arrival" "I") (by decide +kernel)) (fun _ h9 => h9) rfl dX2_find_28 ?_
        refine lv_iload hx hb dX2_find_31 (lv_at hl 4 rfl) ?_
        refine nv_le (tgt := 46) hx hb dX2_find_33 (by decide) (by omega) (by omega) (fun c_33 => ?_) (fun c_33 => ?_)
        · refine lv_aload_n hx hb dX2_find_46 rfl (lv_at hl 0 rfl) ?_
          refine lv_aload hx hb dX2_find_47 (lv_at hl 5 rfl) ?_
          refine lv_iload_n hx hb dX2_find_49 rfl (lv_at hl 3 rfl) ?_
          refine vp_callSi (va_Run.run (va_runV (As := [va_rf (rfN ra (x + 1)), .int (nI t)]) (rest := []) ⟨hx, hb, hml, hown, hts⟩ (c_X2_nue l dD cI cR cS lo x0 b ra sb hd ol σ hI (x + 1) (t) (by omega) ht (fun r hr => by cases hr; omega)) (cwV 2 hts gX2_find_X2_numberUnlessExpired rfl rfl rfl (by decide +kernel) ⟨Nat.le_of_ble_eq_true rfl, Nat.le_of_ble_eq_true rfl⟩) (ePreV hE va_S.rf hP (k := 0) rfl rfl hP) rfl rfl hl.1 rfl (lv_room (Nat.le_of_ble_eq_true rfl)) dX2_find_50 ⟨Nat.le_of_ble_eq_true rfl, Nat.le_of_ble_eq_true rfl⟩)) (fun r_50 hr_50 => ?_)
          subst hr_50
          exact W.iret (v := eN (q_fr σ (x + 1) t)) hx hb hr (fun u9 hu9 hW => ⟨eN (q_fr σ (x + 1) t), rfl, by unfold q_join; rw [← hf_]; simp only [c_first]; rw [if_pos (by omega)], hu9⟩) (fun q h => absurd h List.not_mem_nil) dX2_find_53
        · refine lv_aload hx hb dX2_find_36 (lv_at hl 5 rfl) ?_
          refine va_get (D := dD) (ci := 0) (v := va_rf (rfN ra (ol x))) (C := RX0) (T := TX0) (N := 7) hx hb hts hinX0 hown hK hR 0 rfl rfl 6 (by decide) (hts (.fieldLink RX2 87 "FeatureStore$Row" "older" "LFeatureStore$Row;") (by decide +kernel)) (fun _ h9 => h9) rfl dX2_find_38 ?_
          refine nq_astore (lv' := [(5, va_rf (rfN ra (ol x))), (0, .ref x0), (1, .int (nI f)), (2, .int (nI e)), (3, .int (nI t)), (4, .int (nI k))]) hx hb dX2_find_41 hl (by decide) rfl (fun ls hl => ?_)
          refine lv_goto (tgt := 12) hx hb dX2_find_43 (by decide) ?_
          exact ih (ol x) hs_.2 (fun y hy => hm_ y (List.mem_cons_of_mem _ hy)) (by rw [← hf_]; simp only [c_first]; rw [if_neg (by omega)]) ls (lv_sub hl [1, 2, 3, 4, 5, 0] rfl)
  exact hlp (chn σ (10 * f + e) (s_n σ)) (hd (10 * f + e)) (hX (10 * f + e) (by omega)) (fun y hy => (mem_chn.mp hy).1) (c_first_best _ _ _ _) ls (lv_sub hl [1, 2, 3, 4, 5, 0] rfl)

set_option maxHeartbeats 4000000 in
set_option maxRecDepth 100000 in
theorem c_X2_tell (l : Launch) (dD : va_G) (cI cR cS : ClassId) (lo : Nat) (x0 : Nat) (b ra sb hd ol : Nat → Nat) (σ : St) (hI : sI σ) (f e : Nat) (hf : f < 6) (he : e < 10) : Met l yX2_tell wsX2_tell ({ frames := 1, cells := 0, slots := 0, locals := 22 }) (ePc dD cI cR cS lo [.ref x0, .int (nI f), .int (nI e)] (fun H => va_P dD vwCl (xW cI cR cS x0 b ra sb hd ol σ) H)) (vp_Si (fun r => r = eN (q_fr σ (s_cp σ (10 * f + e)) (s_now σ)))) 0 0 (fun _ => False) := by
  refine Met.ofW (cc := cX2_tell) (maxL := 3) (ret := (some .int)) (by decide) rfl ?_
  intro p e_ s m args below meth c s₁ B hml hv
  obtain ⟨rfl, hE, hP⟩ := hv
  have hx := B.exec
  have hb := B.bytes
  have hr := B.returns
  have hts := atoms_spec (ws := wsX2_tell) B.pre
  have hown : s.vm.findClass RX2 = some m.cls := findClass_of_methodNamed B.named
  have hlocks := B.notSynchronized
  have hK := hE.1.1
  have hinX2 : ∀ w ∈ u_ws RX2 TX2 9, w ∈ wsX2_tell := by decide +kernel
  obtain ⟨i_now, i_n, i_tk, i_k, i_lt, i_row, i_cp, i_srv⟩ := id hI
  obtain ⟨hz_1, hz_2⟩ := i_cp (10 * f + e) (by omega)
  have hl := lv_entry ([.ref x0, .int (nI f), .int (nI e)]) (n := 3) (Nat.le_of_ble_eq_true rfl)
  rw [lg_entry_eq]
  generalize (lg_sl ([.ref x0, .int (nI f), .int (nI e)]) ++ List.replicate (3 - (lg_sl ([.ref x0, .int (nI f), .int (nI e)])).length) Slot.unset).toArray = ls at hl ⊢
  have hl : lv_has ls 3 [(0, .ref x0), (1, .int (nI f)), (2, .int (nI e))] := hl
  refine lv_aload_n hx hb dX2_tell_0 rfl (lv_at hl 0 rfl) ?_
  refine lv_aload_n hx hb dX2_tell_1 rfl (lv_at hl 0 rfl) ?_
  refine va_get (D := dD) (ci := 2) (v := .ref (b 3)) (C := RX2) (T := TX2) (N := 9) hx hb hts hinX2 hown hK hP 0 rfl rfl 5 (by decide) (hts (.fieldLink RX2 22 "FeatureStore" "onlineCopy" "[LFeatureStore$Row;") (by decide +kernel)) (fun _ h9 => h9) rfl dX2_tell_2 ?_
  refine lv_iload_n hx hb dX2_tell_5 rfl (lv_at hl 1 rfl) ?_
  refine lv_iload_n hx hb dX2_tell_6 rfl (lv_at hl 2 rfl) ?_
  refine vp_callSi (va_Run.run (va_runS (As := [.int (nI f), .int (nI e)]) (rest := [.ref (b 3), .ref x0]) ⟨hx, hb, hml, hown, hts⟩ (c_X2_placeOf l dD cI cR cS lo f e) (va_cwS 2 hts gX2_tell_X2_placeOf rfl rfl rfl (by decide +kernel) ⟨Nat.le_of_ble_eq_true rfl, Nat.le_of_ble_eq_true rfl⟩) (ePreS hE va_S.rf trivial) rfl rfl hl.1 rfl (lv_room (Nat.le_of_ble_eq_true rfl)) dX2_tell_7 ⟨Nat.le_of_ble_eq_true rfl, Nat.le_of_ble_eq_true rfl⟩)) (fun r_7 hr_7 => ?_)
  subst hr_7
  refine nq_aald (q0 := 4) (t0 := 1) (fun j => rfN ra (s_cp σ j)) hx hb hK hP rfl rfl (by omega) (by decide) dX2_tell_10 ?_
  refine lv_aload_n hx hb dX2_tell_11 rfl (lv_at hl 0 rfl) ?_
  refine va_get (D := dD) (ci := 2) (v := .int (nI (s_now σ))) (C := RX2) (T := TX2) (N := 9) hx hb hts hinX2 hown hK hP 0 rfl rfl 0 (by decide) (hts (.fieldLink RX2 35 "FeatureStore" "now" "I") (by decide +kernel)) (fun _ h9 => h9) rfl dX2_tell_12 ?_
  refine vp_callSi (va_Run.run (va_runV (As := [va_rf (rfN ra (s_cp σ (10 * f + e))), .int (nI (s_now σ))]) (rest := []) ⟨hx, hb, hml, hown, hts⟩ (c_X2_nue l dD cI cR cS lo x0 b ra sb hd ol σ hI (s_cp σ (10 * f + e)) (s_now σ) (by omega) (by omega) (fun r hr => by obtain ⟨hy_1, hy_2, hy_3, hy_4⟩ := i_row r (by omega); omega)) (cwV 2 hts gX2_tell_X2_numberUnlessExpired rfl rfl rfl (by decide +kernel) ⟨Nat.le_of_ble_eq_true rfl, Nat.le_of_ble_eq_true rfl⟩) (ePreV hE va_S.rf hP (k := 0) rfl rfl hP) rfl rfl hl.1 rfl (lv_room (Nat.le_of_ble_eq_true rfl)) dX2_tell_15 ⟨Nat.le_of_ble_eq_true rfl, Nat.le_of_ble_eq_true rfl⟩)) (fun r_15 hr_15 => ?_)
  subst hr_15
  exact W.iret (v := eN (q_fr σ (s_cp σ (10 * f + e)) (s_now σ))) hx hb hr (fun u9 hu9 hW => ⟨eN (q_fr σ (s_cp σ (10 * f + e)) (s_now σ)), rfl, rfl, hu9⟩) (fun q h => absurd h List.not_mem_nil) dX2_tell_18
