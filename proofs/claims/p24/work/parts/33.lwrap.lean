/-! the law's own small methods, over the class's (laid by wip/p24/gen/lwrap24.py) -/
set_option maxHeartbeats 4000000 in
set_option maxRecDepth 100000 in
theorem c_L_value (l : Launch) (dD : va_G) (cI cR cS : ClassId) (lo : Nat) (hfl : l.stackTraces = false) (x0 : Nat) (b ra sb hd ol : Nat → Nat) (σ : St) (hI : sI σ) (hX : xI σ hd ol) (x : Int32) : Met l yL_value wsL_value ({ frames := 8, cells := 1, slots := 6, locals := 125 }) (ePc dD cI cR cS lo [.ref x0, .int x] (fun H => va_P dD vwCl (xW cI cR cS x0 b ra sb hd ol σ) H)) (lK (fun r => ((ri x (s_n σ)) ∧ r = nI (s_vl σ (cl x))) ∨ (¬ (ri x (s_n σ)) ∧ r = (-71)))) 1 6 (fun _ => False) := by
  refine Met.ofWH (cc := cL_value) (maxL := 4) (ret := (some .int)) (by decide) rfl ?_
  intro p e_ s m args below meth c s₁ B hml hv
  obtain ⟨rfl, hE, hP⟩ := hv
  have hx := B.exec
  have hb := B.bytes
  have hr := B.returns
  have hts := atoms_spec (ws := wsL_value) B.pre
  have hown : s.vm.findClass RL = some m.cls := findClass_of_methodNamed B.named
  have hlocks := B.notSynchronized
  have hK := hE.1.1
  have hl := lv_entry ([.ref x0, .int x]) (n := 4) (Nat.le_of_ble_eq_true rfl)
  rw [lg_entry_eq]
  generalize (lg_sl ([.ref x0, .int x]) ++ List.replicate (4 - (lg_sl ([.ref x0, .int x])).length) Slot.unset).toArray = ls at hl ⊢
  have hl : lv_has ls 4 [(0, .ref x0), (1, .int x)] := hl
  refine lv_aload_n hx hb dL_value_0 rfl (lv_at hl 0 rfl) ?_
  refine lv_iload_n hx hb dL_value_1 rfl (lv_at hl 1 rfl) ?_
  have htab : c.exceptionTable.toList = tableOf [(0, 6, 9, 29)] := vx_table (x := yL_value) B (hts _ List.mem_cons_self)
  refine nx_calli (vx_runV (As := [.int x]) (rest := []) ⟨hx, hb, hml, hown, hts⟩ (c_X2_value l dD cI cR cS lo hfl x0 b ra sb hd ol σ hI x) (cwV 1 hts gL_value_X2_value rfl rfl rfl (by decide +kernel) ⟨Nat.le_of_ble_eq_true rfl, Nat.le_of_ble_eq_true rfl⟩) (ePreV hE va_S.rf hP (k := 0) rfl rfl hP) rfl rfl hl.1 rfl (lv_room (Nat.le_of_ble_eq_true rfl)) dL_value_2 ⟨Nat.le_of_ble_eq_true rfl, Nat.le_of_ble_eq_true rfl⟩) (fun E ce q9 H1 hX9 hz9 hk9 hc9 hv9 hf9 => ?_) (fun r_ hr_ => ?_)
  · obtain ⟨rfl, hX9⟩ := hX9
    refine vx_catch (name := nIOB) hown [] ⟨0, 6, 9, 29⟩ [] htab (fun z hz => absurd hz List.not_mem_nil) (by decide) (by decide) (hts (.classLink RL 29 nIOB) (by decide +kernel)) (va_Nw.use rfl (hE.1.2.2.2.2.2.2.2.1 (.castable nIOB nIOB) (by decide +kernel))) hc9 hv9 hf9 ?_
    refine lv_astore_n (lv' := [(3, .ref q9), (0, .ref x0), (1, .int x)]) hx hb dL_value_9 rfl hl (by decide) rfl (fun ls hl => ?_)
    refine lv_bipush (v := (-71)) hx hb dL_value_10 (by decide +kernel) ?_
    exact W.iret (v := ((-71))) hx hb hr (fun u9 hu9 hW => ⟨((-71)), rfl, Or.inr ⟨hX9, rfl⟩, kH.F (⟨hz9, hk9⟩ : kH s.heap H1) hu9⟩) (fun z hz => absurd hz List.not_mem_nil) dL_value_12
  · obtain ⟨hok, rfl⟩ := hr_
    refine lv_istore_n (lv' := [(2, .int (nI (s_vl σ (cl x)))), (0, .ref x0), (1, .int x)]) hx hb dL_value_5 rfl hl (by decide) rfl (fun ls hl => ?_)
    refine lv_goto (tgt := 13) hx hb dL_value_6 (by decide) ?_
    refine lv_iload_n hx hb dL_value_13 rfl (lv_at hl 0 rfl) ?_
    exact W.iret (v := nI (s_vl σ (cl x))) hx hb hr (fun u9 hu9 hW => ⟨nI (s_vl σ (cl x)), rfl, Or.inl ⟨hok, rfl⟩, kH.F kH.rf hu9⟩) (fun z hz => absurd hz List.not_mem_nil) dL_value_14

set_option maxHeartbeats 4000000 in
set_option maxRecDepth 100000 in
theorem c_L_late (l : Launch) (dD : va_G) (cI cR cS : ClassId) (lo : Nat) (hfl : l.stackTraces = false) (x0 : Nat) (b ra sb hd ol : Nat → Nat) (σ : St) (hI : sI σ) (hX : xI σ hd ol) (x : Int32) : Met l yL_late wsL_late ({ frames := 8, cells := 1, slots := 6, locals := 126 }) (ePc dD cI cR cS lo [.ref x0, .int x] (fun H => va_P dD vwCl (xW cI cR cS x0 b ra sb hd ol σ) H)) (lK (fun r => ((ri x (s_n σ)) ∧ r = nI (s_ar σ (cl x) - s_ev σ (cl x))) ∨ (¬ (ri x (s_n σ)) ∧ r = (-71)))) 1 6 (fun _ => False) := by
  refine Met.ofWH (cc := cL_late) (maxL := 4) (ret := (some .int)) (by decide) rfl ?_
  intro p e_ s m args below meth c s₁ B hml hv
  obtain ⟨rfl, hE, hP⟩ := hv
  have hx := B.exec
  have hb := B.bytes
  have hr := B.returns
  have hts := atoms_spec (ws := wsL_late) B.pre
  have hown : s.vm.findClass RL = some m.cls := findClass_of_methodNamed B.named
  have hlocks := B.notSynchronized
  have hK := hE.1.1
  have hl := lv_entry ([.ref x0, .int x]) (n := 4) (Nat.le_of_ble_eq_true rfl)
  rw [lg_entry_eq]
  generalize (lg_sl ([.ref x0, .int x]) ++ List.replicate (4 - (lg_sl ([.ref x0, .int x])).length) Slot.unset).toArray = ls at hl ⊢
  have hl : lv_has ls 4 [(0, .ref x0), (1, .int x)] := hl
  refine lv_aload_n hx hb dL_late_0 rfl (lv_at hl 0 rfl) ?_
  refine lv_iload_n hx hb dL_late_1 rfl (lv_at hl 1 rfl) ?_
  have htab : c.exceptionTable.toList = tableOf [(0, 6, 9, 29)] := vx_table (x := yL_late) B (hts _ List.mem_cons_self)
  refine nx_calli (vx_runV (As := [.int x]) (rest := []) ⟨hx, hb, hml, hown, hts⟩ (c_X2_late l dD cI cR cS lo hfl x0 b ra sb hd ol σ hI x) (cwV 1 hts gL_late_X2_late rfl rfl rfl (by decide +kernel) ⟨Nat.le_of_ble_eq_true rfl, Nat.le_of_ble_eq_true rfl⟩) (ePreV hE va_S.rf hP (k := 0) rfl rfl hP) rfl rfl hl.1 rfl (lv_room (Nat.le_of_ble_eq_true rfl)) dL_late_2 ⟨Nat.le_of_ble_eq_true rfl, Nat.le_of_ble_eq_true rfl⟩) (fun E ce q9 H1 hX9 hz9 hk9 hc9 hv9 hf9 => ?_) (fun r_ hr_ => ?_)
  · obtain ⟨rfl, hX9⟩ := hX9
    refine vx_catch (name := nIOB) hown [] ⟨0, 6, 9, 29⟩ [] htab (fun z hz => absurd hz List.not_mem_nil) (by decide) (by decide) (hts (.classLink RL 29 nIOB) (by decide +kernel)) (va_Nw.use rfl (hE.1.2.2.2.2.2.2.2.1 (.castable nIOB nIOB) (by decide +kernel))) hc9 hv9 hf9 ?_
    refine lv_astore_n (lv' := [(3, .ref q9), (0, .ref x0), (1, .int x)]) hx hb dL_late_9 rfl hl (by decide) rfl (fun ls hl => ?_)
    refine lv_bipush (v := (-71)) hx hb dL_late_10 (by decide +kernel) ?_
    exact W.iret (v := ((-71))) hx hb hr (fun u9 hu9 hW => ⟨((-71)), rfl, Or.inr ⟨hX9, rfl⟩, kH.F (⟨hz9, hk9⟩ : kH s.heap H1) hu9⟩) (fun z hz => absurd hz List.not_mem_nil) dL_late_12
  · obtain ⟨hok, rfl⟩ := hr_
    refine lv_istore_n (lv' := [(2, .int (nI (s_ar σ (cl x) - s_ev σ (cl x)))), (0, .ref x0), (1, .int x)]) hx hb dL_late_5 rfl hl (by decide) rfl (fun ls hl => ?_)
    refine lv_goto (tgt := 13) hx hb dL_late_6 (by decide) ?_
    refine lv_iload_n hx hb dL_late_13 rfl (lv_at hl 0 rfl) ?_
    exact W.iret (v := nI (s_ar σ (cl x) - s_ev σ (cl x))) hx hb hr (fun u9 hu9 hW => ⟨nI (s_ar σ (cl x) - s_ev σ (cl x)), rfl, Or.inl ⟨hok, rfl⟩, kH.F kH.rf hu9⟩) (fun z hz => absurd hz List.not_mem_nil) dL_late_14

set_option maxHeartbeats 4000000 in
set_option maxRecDepth 100000 in
theorem c_L_join (l : Launch) (dD : va_G) (cI cR cS : ClassId) (lo : Nat) (hfl : l.stackTraces = false) (x0 : Nat) (b ra sb hd ol : Nat → Nat) (σ : St) (hI : sI σ) (hX : xI σ hd ol) (f e t k : Int32) : Met l yL_join wsL_join ({ frames := 9, cells := 4, slots := 24, locals := 149 }) (ePc dD cI cR cS lo [.ref x0, .int f, .int e, .int t, .int k] (fun H => va_P dD vwCl (xW cI cR cS x0 b ra sb hd ol σ) H)) (lK (fun r => ((okP f e ∧ rg t 0 10000 ∧ rg k 0 (s_now σ)) ∧ r = eN (q_join σ (plN f e) (cl t) (cl k))) ∨ (¬ (okP f e ∧ rg t 0 10000 ∧ rg k 0 (s_now σ)) ∧ r = (-72)))) 4 24 (fun _ => False) := by
  refine Met.ofWH (cc := cL_join) (maxL := 7) (ret := (some .int)) (by decide) rfl ?_
  intro p e_ s m args below meth c s₁ B hml hv
  obtain ⟨rfl, hE, hP⟩ := hv
  have hx := B.exec
  have hb := B.bytes
  have hr := B.returns
  have hts := atoms_spec (ws := wsL_join) B.pre
  have hown : s.vm.findClass RL = some m.cls := findClass_of_methodNamed B.named
  have hlocks := B.notSynchronized
  have hK := hE.1.1
  have hl := lv_entry ([.ref x0, .int f, .int e, .int t, .int k]) (n := 7) (Nat.le_of_ble_eq_true rfl)
  rw [lg_entry_eq]
  generalize (lg_sl ([.ref x0, .int f, .int e, .int t, .int k]) ++ List.replicate (7 - (lg_sl ([.ref x0, .int f, .int e, .int t, .int k])).length) Slot.unset).toArray = ls at hl ⊢
  have hl : lv_has ls 7 [(0, .ref x0), (1, .int f), (2, .int e), (3, .int t), (4, .int k)] := hl
  refine lv_aload_n hx hb dL_join_0 rfl (lv_at hl 0 rfl) ?_
  refine lv_iload_n hx hb dL_join_1 rfl (lv_at hl 1 rfl) ?_
  refine lv_iload_n hx hb dL_join_2 rfl (lv_at hl 2 rfl) ?_
  refine lv_iload_n hx hb dL_join_3 rfl (lv_at hl 3 rfl) ?_
  refine lv_iload hx hb dL_join_4 (lv_at hl 4 rfl) ?_
  have htab : c.exceptionTable.toList = tableOf [(0, 11, 14, 14)] := vx_table (x := yL_join) B (hts _ List.mem_cons_self)
  refine nx_calli (vx_runV (As := [.int f, .int e, .int t, .int k]) (rest := []) ⟨hx, hb, hml, hown, hts⟩ (c_X2_join l dD cI cR cS lo hfl x0 b ra sb hd ol σ hI hX f e t k) (cwV 4 hts gL_join_X2_join rfl rfl rfl (by decide +kernel) ⟨Nat.le_of_ble_eq_true rfl, Nat.le_of_ble_eq_true rfl⟩) (ePreV hE va_S.rf hP (k := 0) rfl rfl hP) rfl rfl hl.1 rfl (lv_room (Nat.le_of_ble_eq_true rfl)) dL_join_6 ⟨Nat.le_of_ble_eq_true rfl, Nat.le_of_ble_eq_true rfl⟩) (fun E ce q9 H1 hX9 hz9 hk9 hc9 hv9 hf9 => ?_) (fun r_ hr_ => ?_)
  · obtain ⟨rfl, hX9⟩ := hX9
    refine vx_catch (name := nIAE) hown [] ⟨0, 11, 14, 14⟩ [] htab (fun z hz => absurd hz List.not_mem_nil) (by decide) (by decide) (hts (.classLink RL 14 nIAE) (by decide +kernel)) (va_Nw.use rfl (hE.1.2.2.2.2.2.2.2.1 (.castable nIAE nIAE) (by decide +kernel))) hc9 hv9 hf9 ?_
    refine lv_astore (lv' := [(6, .ref q9), (0, .ref x0), (1, .int f), (2, .int e), (3, .int t), (4, .int k)]) hx hb dL_join_14 hl (by decide) rfl (fun ls hl => ?_)
    refine lv_bipush (v := (-72)) hx hb dL_join_16 (by decide +kernel) ?_
    exact W.iret (v := ((-72))) hx hb hr (fun u9 hu9 hW => ⟨((-72)), rfl, Or.inr ⟨hX9, rfl⟩, kH.F (⟨hz9, hk9⟩ : kH s.heap H1) hu9⟩) (fun z hz => absurd hz List.not_mem_nil) dL_join_18
  · obtain ⟨hok, rfl⟩ := hr_
    refine lv_istore (lv' := [(5, .int (eN (q_join σ (plN f e) (cl t) (cl k)))), (0, .ref x0), (1, .int f), (2, .int e), (3, .int t), (4, .int k)]) hx hb dL_join_9 hl (by decide) rfl (fun ls hl => ?_)
    refine lv_goto (tgt := 19) hx hb dL_join_11 (by decide) ?_
    refine lv_iload hx hb dL_join_19 (lv_at hl 0 rfl) ?_
    exact W.iret (v := eN (q_join σ (plN f e) (cl t) (cl k))) hx hb hr (fun u9 hu9 hW => ⟨eN (q_join σ (plN f e) (cl t) (cl k)), rfl, Or.inl ⟨hok, rfl⟩, kH.F kH.rf hu9⟩) (fun z hz => absurd hz List.not_mem_nil) dL_join_21

set_option maxHeartbeats 4000000 in
set_option maxRecDepth 100000 in
theorem c_L_window (l : Launch) (dD : va_G) (cI cR cS : ClassId) (lo : Nat) (hfl : l.stackTraces = false) (x0 : Nat) (b ra sb hd ol : Nat → Nat) (σ : St) (hI : sI σ) (hX : xI σ hd ol) (f e x y : Int32) : Met l yL_window wsL_window ({ frames := 9, cells := 4, slots := 24, locals := 151 }) (ePc dD cI cR cS lo [.ref x0, .int f, .int e, .int x, .int y] (fun H => va_P dD vwCl (xW cI cR cS x0 b ra sb hd ol σ) H)) (lK (fun r => ((okP f e ∧ rg x 0 10000 ∧ rg y (cl x) 10000) ∧ r = nI (q_sum σ (plN f e) (cl x) (cl y) (s_n σ))) ∨ (¬ (okP f e ∧ rg x 0 10000 ∧ rg y (cl x) 10000) ∧ r = (-72)))) 4 24 (fun _ => False) := by
  refine Met.ofWH (cc := cL_window) (maxL := 7) (ret := (some .int)) (by decide) rfl ?_
  intro p e_ s m args below meth c s₁ B hml hv
  obtain ⟨rfl, hE, hP⟩ := hv
  have hx := B.exec
  have hb := B.bytes
  have hr := B.returns
  have hts := atoms_spec (ws := wsL_window) B.pre
  have hown : s.vm.findClass RL = some m.cls := findClass_of_methodNamed B.named
  have hlocks := B.notSynchronized
  have hK := hE.1.1
  have hl := lv_entry ([.ref x0, .int f, .int e, .int x, .int y]) (n := 7) (Nat.le_of_ble_eq_true rfl)
  rw [lg_entry_eq]
  generalize (lg_sl ([.ref x0, .int f, .int e, .int x, .int y]) ++ List.replicate (7 - (lg_sl ([.ref x0, .int f, .int e, .int x, .int y])).length) Slot.unset).toArray = ls at hl ⊢
  have hl : lv_has ls 7 [(0, .ref x0), (1, .int f), (2, .int e), (3, .int x), (4, .int y)] := hl
  refine lv_aload_n hx hb dL_window_0 rfl (lv_at hl 0 rfl) ?_
  refine lv_iload_n hx hb dL_window_1 rfl (lv_at hl 1 rfl) ?_
  refine lv_iload_n hx hb dL_window_2 rfl (lv_at hl 2 rfl) ?_
  refine lv_iload_n hx hb dL_window_3 rfl (lv_at hl 3 rfl) ?_
  refine lv_iload hx hb dL_window_4 (lv_at hl 4 rfl) ?_
  have htab : c.exceptionTable.toList = tableOf [(0, 11, 14, 14)] := vx_table (x := yL_window) B (hts _ List.mem_cons_self)
  refine nx_calli (vx_runV (As := [.int f, .int e, .int x, .int y]) (rest := []) ⟨hx, hb, hml, hown, hts⟩ (c_X2_window l dD cI cR cS lo hfl x0 b ra sb hd ol σ hI hX f e x y) (cwV 4 hts gL_window_X2_window rfl rfl rfl (by decide +kernel) ⟨Nat.le_of_ble_eq_true rfl, Nat.le_of_ble_eq_true rfl⟩) (ePreV hE va_S.rf hP (k := 0) rfl rfl hP) rfl rfl hl.1 rfl (lv_room (Nat.le_of_ble_eq_true rfl)) dL_window_6 ⟨Nat.le_of_ble_eq_true rfl, Nat.le_of_ble_eq_true rfl⟩) (fun E ce q9 H1 hX9 hz9 hk9 hc9 hv9 hf9 => ?_) (fun r_ hr_ => ?_)
  · obtain ⟨rfl, hX9⟩ := hX9
    refine vx_catch (name := nIAE) hown [] ⟨0, 11, 14, 14⟩ [] htab (fun z hz => absurd hz List.not_mem_nil) (by decide) (by decide) (hts (.classLink RL 14 nIAE) (by decide +kernel)) (va_Nw.use rfl (hE.1.2.2.2.2.2.2.2.1 (.castable nIAE nIAE) (by decide +kernel))) hc9 hv9 hf9 ?_
    refine lv_astore (lv' := [(6, .ref q9), (0, .ref x0), (1, .int f), (2, .int e), (3, .int x), (4, .int y)]) hx hb dL_window_14 hl (by decide) rfl (fun ls hl => ?_)
    refine lv_bipush (v := (-72)) hx hb dL_window_16 (by decide +kernel) ?_
    exact W.iret (v := ((-72))) hx hb hr (fun u9 hu9 hW => ⟨((-72)), rfl, Or.inr ⟨hX9, rfl⟩, kH.F (⟨hz9, hk9⟩ : kH s.heap H1) hu9⟩) (fun z hz => absurd hz List.not_mem_nil) dL_window_18
  · obtain ⟨hok, rfl⟩ := hr_
    refine lv_istore (lv' := [(5, .int (nI (q_sum σ (plN f e) (cl x) (cl y) (s_n σ)))), (0, .ref x0), (1, .int f), (2, .int e), (3, .int x), (4, .int y)]) hx hb dL_window_9 hl (by decide) rfl (fun ls hl => ?_)
    refine lv_goto (tgt := 19) hx hb dL_window_11 (by decide) ?_
    refine lv_iload hx hb dL_window_19 (lv_at hl 0 rfl) ?_
    exact W.iret (v := nI (q_sum σ (plN f e) (cl x) (cl y) (s_n σ))) hx hb hr (fun u9 hu9 hW => ⟨nI (q_sum σ (plN f e) (cl x) (cl y) (s_n σ)), rfl, Or.inl ⟨hok, rfl⟩, kH.F kH.rf hu9⟩) (fun z hz => absurd hz List.not_mem_nil) dL_window_21

set_option maxHeartbeats 4000000 in
set_option maxRecDepth 100000 in
theorem c_L_greatestTile (l : Launch) (dD : va_G) (cI cR cS : ClassId) (lo : Nat) (hfl : l.stackTraces = false) (x0 : Nat) (b ra sb hd ol : Nat → Nat) (σ : St) (hI : sI σ) (hX : xI σ hd ol) (f e x : Int32) : Met l yL_greatestTile wsL_greatestTile ({ frames := 9, cells := 3, slots := 18, locals := 153 }) (ePc dD cI cR cS lo [.ref x0, .int f, .int e, .int x] (fun H => va_P dD vwCl (xW cI cR cS x0 b ra sb hd ol σ) H)) (lK (fun r => ((okP f e ∧ rg x 1 10000) ∧ r = nI (q_gt σ (plN f e) (cl x) (s_n σ))) ∨ (¬ (okP f e ∧ rg x 1 10000) ∧ r = (-72)))) 3 18 (fun _ => False) := by
  refine Met.ofWH (cc := cL_greatestTile) (maxL := 6) (ret := (some .int)) (by decide) rfl ?_
  intro p e_ s m args below meth c s₁ B hml hv
  obtain ⟨rfl, hE, hP⟩ := hv
  have hx := B.exec
  have hb := B.bytes
  have hr := B.returns
  have hts := atoms_spec (ws := wsL_greatestTile) B.pre
  have hown : s.vm.findClass RL = some m.cls := findClass_of_methodNamed B.named
  have hlocks := B.notSynchronized
  have hK := hE.1.1
  have hl := lv_entry ([.ref x0, .int f, .int e, .int x]) (n := 6) (Nat.le_of_ble_eq_true rfl)
  rw [lg_entry_eq]
  generalize (lg_sl ([.ref x0, .int f, .int e, .int x]) ++ List.replicate (6 - (lg_sl ([.ref x0, .int f, .int e, .int x])).length) Slot.unset).toArray = ls at hl ⊢
  have hl : lv_has ls 6 [(0, .ref x0), (1, .int f), (2, .int e), (3, .int x)] := hl
  refine lv_aload_n hx hb dL_greatestTile_0 rfl (lv_at hl 0 rfl) ?_
  refine lv_iload_n hx hb dL_greatestTile_1 rfl (lv_at hl 1 rfl) ?_
  refine lv_iload_n hx hb dL_greatestTile_2 rfl (lv_at hl 2 rfl) ?_
  refine lv_iload_n hx hb dL_greatestTile_3 rfl (lv_at hl 3 rfl) ?_
  have htab : c.exceptionTable.toList = tableOf [(0, 9, 12, 14)] := vx_table (x := yL_greatestTile) B (hts _ List.mem_cons_self)
  refine nx_calli (vx_runV (As := [.int f, .int e, .int x]) (rest := []) ⟨hx, hb, hml, hown, hts⟩ (c_X2_greatestTile l dD cI cR cS lo hfl x0 b ra sb hd ol σ hI hX f e x) (cwV 3 hts gL_greatestTile_X2_greatestTile rfl rfl rfl (by decide +kernel) ⟨Nat.le_of_ble_eq_true rfl, Nat.le_of_ble_eq_true rfl⟩) (ePreV hE va_S.rf hP (k := 0) rfl rfl hP) rfl rfl hl.1 rfl (lv_room (Nat.le_of_ble_eq_true rfl)) dL_greatestTile_4 ⟨Nat.le_of_ble_eq_true rfl, Nat.le_of_ble_eq_true rfl⟩) (fun E ce q9 H1 hX9 hz9 hk9 hc9 hv9 hf9 => ?_) (fun r_ hr_ => ?_)
  · obtain ⟨rfl, hX9⟩ := hX9
    refine vx_catch (name := nIAE) hown [] ⟨0, 9, 12, 14⟩ [] htab (fun z hz => absurd hz List.not_mem_nil) (by decide) (by decide) (hts (.classLink RL 14 nIAE) (by decide +kernel)) (va_Nw.use rfl (hE.1.2.2.2.2.2.2.2.1 (.castable nIAE nIAE) (by decide +kernel))) hc9 hv9 hf9 ?_
    refine lv_astore (lv' := [(5, .ref q9), (0, .ref x0), (1, .int f), (2, .int e), (3, .int x)]) hx hb dL_greatestTile_12 hl (by decide) rfl (fun ls hl => ?_)
    refine lv_bipush (v := (-72)) hx hb dL_greatestTile_14 (by decide +kernel) ?_
    exact W.iret (v := ((-72))) hx hb hr (fun u9 hu9 hW => ⟨((-72)), rfl, Or.inr ⟨hX9, rfl⟩, kH.F (⟨hz9, hk9⟩ : kH s.heap H1) hu9⟩) (fun z hz => absurd hz List.not_mem_nil) dL_greatestTile_16
  · obtain ⟨hok, rfl⟩ := hr_
    refine lv_istore (lv' := [(4, .int (nI (q_gt σ (plN f e) (cl x) (s_n σ)))), (0, .ref x0), (1, .int f), (2, .int e), (3, .int x)]) hx hb dL_greatestTile_7 hl (by decide) rfl (fun ls hl => ?_)
    refine lv_goto (tgt := 17) hx hb dL_greatestTile_9 (by decide) ?_
    refine lv_iload hx hb dL_greatestTile_17 (lv_at hl 0 rfl) ?_
    exact W.iret (v := nI (q_gt σ (plN f e) (cl x) (s_n σ))) hx hb hr (fun u9 hu9 hW => ⟨nI (q_gt σ (plN f e) (cl x) (s_n σ)), rfl, Or.inl ⟨hok, rfl⟩, kH.F kH.rf hu9⟩) (fun z hz => absurd hz List.not_mem_nil) dL_greatestTile_19

set_option maxHeartbeats 4000000 in
set_option maxRecDepth 100000 in
theorem c_L_tiles (l : Launch) (dD : va_G) (cI cR cS : ClassId) (lo : Nat) (hfl : l.stackTraces = false) (x0 : Nat) (b ra sb hd ol : Nat → Nat) (σ : St) (hI : sI σ) (hX : xI σ hd ol) (f e x : Int32) : Met l yL_tiles wsL_tiles ({ frames := 9, cells := 3, slots := 18, locals := 152 }) (ePc dD cI cR cS lo [.ref x0, .int f, .int e, .int x] (fun H => va_P dD vwCl (xW cI cR cS x0 b ra sb hd ol σ) H)) (lK (fun r => ((okP f e ∧ rg x 1 10000) ∧ r = nI (q_tl σ (plN f e) (cl x) (s_n σ))) ∨ (¬ (okP f e ∧ rg x 1 10000) ∧ r = (-72)))) 3 18 (fun _ => False) := by
  refine Met.ofWH (cc := cL_tiles) (maxL := 6) (ret := (some .int)) (by decide) rfl ?_
  intro p e_ s m args below meth c s₁ B hml hv
  obtain ⟨rfl, hE, hP⟩ := hv
  have hx := B.exec
  have hb := B.bytes
  have hr := B.returns
  have hts := atoms_spec (ws := wsL_tiles) B.pre
  have hown : s.vm.findClass RL = some m.cls := findClass_of_methodNamed B.named
  have hlocks := B.notSynchronized
  have hK := hE.1.1
  have hl := lv_entry ([.ref x0, .int f, .int e, .int x]) (n := 6) (Nat.le_of_ble_eq_true rfl)
  rw [lg_entry_eq]
  generalize (lg_sl ([.ref x0, .int f, .int e, .int x]) ++ List.replicate (6 - (lg_sl ([.ref x0, .int f, .int e, .int x])).length) Slot.unset).toArray = ls at hl ⊢
  have hl : lv_has ls 6 [(0, .ref x0), (1, .int f), (2, .int e), (3, .int x)] := hl
  refine lv_aload_n hx hb dL_tiles_0 rfl (lv_at hl 0 rfl) ?_
  refine lv_iload_n hx hb dL_tiles_1 rfl (lv_at hl 1 rfl) ?_
  refine lv_iload_n hx hb dL_tiles_2 rfl (lv_at hl 2 rfl) ?_
  refine lv_iload_n hx hb dL_tiles_3 rfl (lv_at hl 3 rfl) ?_
  have htab : c.exceptionTable.toList = tableOf [(0, 9, 12, 14)] := vx_table (x := yL_tiles) B (hts _ List.mem_cons_self)
  refine nx_calli (vx_runV (As := [.int f, .int e, .int x]) (rest := []) ⟨hx, hb, hml, hown, hts⟩ (c_X2_tiles l dD cI cR cS lo hfl x0 b ra sb hd ol σ hI hX f e x) (cwV 3 hts gL_tiles_X2_tiles rfl rfl rfl (by decide +kernel) ⟨Nat.le_of_ble_eq_true rfl, Nat.le_of_ble_eq_true rfl⟩) (ePreV hE va_S.rf hP (k := 0) rfl rfl hP) rfl rfl hl.1 rfl (lv_room (Nat.le_of_ble_eq_true rfl)) dL_tiles_4 ⟨Nat.le_of_ble_eq_true rfl, Nat.le_of_ble_eq_true rfl⟩) (fun E ce q9 H1 hX9 hz9 hk9 hc9 hv9 hf9 => ?_) (fun r_ hr_ => ?_)
  · obtain ⟨rfl, hX9⟩ := hX9
    refine vx_catch (name := nIAE) hown [] ⟨0, 9, 12, 14⟩ [] htab (fun z hz => absurd hz List.not_mem_nil) (by decide) (by decide) (hts (.classLink RL 14 nIAE) (by decide +kernel)) (va_Nw.use rfl (hE.1.2.2.2.2.2.2.2.1 (.castable nIAE nIAE) (by decide +kernel))) hc9 hv9 hf9 ?_
    refine lv_astore (lv' := [(5, .ref q9), (0, .ref x0), (1, .int f), (2, .int e), (3, .int x)]) hx hb dL_tiles_12 hl (by decide) rfl (fun ls hl => ?_)
    refine lv_bipush (v := (-72)) hx hb dL_tiles_14 (by decide +kernel) ?_
    exact W.iret (v := ((-72))) hx hb hr (fun u9 hu9 hW => ⟨((-72)), rfl, Or.inr ⟨hX9, rfl⟩, kH.F (⟨hz9, hk9⟩ : kH s.heap H1) hu9⟩) (fun z hz => absurd hz List.not_mem_nil) dL_tiles_16
  · obtain ⟨hok, rfl⟩ := hr_
    refine lv_istore (lv' := [(4, .int (nI (q_tl σ (plN f e) (cl x) (s_n σ)))), (0, .ref x0), (1, .int f), (2, .int e), (3, .int x)]) hx hb dL_tiles_7 hl (by decide) rfl (fun ls hl => ?_)
    refine lv_goto (tgt := 17) hx hb dL_tiles_9 (by decide) ?_
    refine lv_iload hx hb dL_tiles_17 (lv_at hl 0 rfl) ?_
    exact W.iret (v := nI (q_tl σ (plN f e) (cl x) (s_n σ))) hx hb hr (fun u9 hu9 hW => ⟨nI (q_tl σ (plN f e) (cl x) (s_n σ)), rfl, Or.inl ⟨hok, rfl⟩, kH.F kH.rf hu9⟩) (fun z hz => absurd hz List.not_mem_nil) dL_tiles_19

set_option maxHeartbeats 4000000 in
set_option maxRecDepth 100000 in
theorem c_L_revised (l : Launch) (dD : va_G) (cI cR cS : ClassId) (lo : Nat) (hfl : l.stackTraces = false) (x0 : Nat) (b ra sb hd ol : Nat → Nat) (σ : St) (hI : sI σ) (hX : xI σ hd ol) (f e x : Int32) : Met l yL_revised wsL_revised ({ frames := 9, cells := 3, slots := 18, locals := 153 }) (ePc dD cI cR cS lo [.ref x0, .int f, .int e, .int x] (fun H => va_P dD vwCl (xW cI cR cS x0 b ra sb hd ol σ) H)) (lK (fun r => ((okP f e ∧ rg x 1 10000) ∧ r = nI (q_rev σ (plN f e) (cl x) (s_now σ / cl x + 1))) ∨ (¬ (okP f e ∧ rg x 1 10000) ∧ r = (-72)))) 3 18 (fun _ => False) := by
  refine Met.ofWH (cc := cL_revised) (maxL := 6) (ret := (some .int)) (by decide) rfl ?_
  intro p e_ s m args below meth c s₁ B hml hv
  obtain ⟨rfl, hE, hP⟩ := hv
  have hx := B.exec
  have hb := B.bytes
  have hr := B.returns
  have hts := atoms_spec (ws := wsL_revised) B.pre
  have hown : s.vm.findClass RL = some m.cls := findClass_of_methodNamed B.named
  have hlocks := B.notSynchronized
  have hK := hE.1.1
  have hl := lv_entry ([.ref x0, .int f, .int e, .int x]) (n := 6) (Nat.le_of_ble_eq_true rfl)
  rw [lg_entry_eq]
  generalize (lg_sl ([.ref x0, .int f, .int e, .int x]) ++ List.replicate (6 - (lg_sl ([.ref x0, .int f, .int e, .int x])).length) Slot.unset).toArray = ls at hl ⊢
  have hl : lv_has ls 6 [(0, .ref x0), (1, .int f), (2, .int e), (3, .int x)] := hl
  refine lv_aload_n hx hb dL_revised_0 rfl (lv_at hl 0 rfl) ?_
  refine lv_iload_n hx hb dL_revised_1 rfl (lv_at hl 1 rfl) ?_
  refine lv_iload_n hx hb dL_revised_2 rfl (lv_at hl 2 rfl) ?_
  refine lv_iload_n hx hb dL_revised_3 rfl (lv_at hl 3 rfl) ?_
  have htab : c.exceptionTable.toList = tableOf [(0, 9, 12, 14)] := vx_table (x := yL_revised) B (hts _ List.mem_cons_self)
  refine nx_calli (vx_runV (As := [.int f, .int e, .int x]) (rest := []) ⟨hx, hb, hml, hown, hts⟩ (c_X2_revised l dD cI cR cS lo hfl x0 b ra sb hd ol σ hI hX f e x) (cwV 3 hts gL_revised_X2_revised rfl rfl rfl (by decide +kernel) ⟨Nat.le_of_ble_eq_true rfl, Nat.le_of_ble_eq_true rfl⟩) (ePreV hE va_S.rf hP (k := 0) rfl rfl hP) rfl rfl hl.1 rfl (lv_room (Nat.le_of_ble_eq_true rfl)) dL_revised_4 ⟨Nat.le_of_ble_eq_true rfl, Nat.le_of_ble_eq_true rfl⟩) (fun E ce q9 H1 hX9 hz9 hk9 hc9 hv9 hf9 => ?_) (fun r_ hr_ => ?_)
  · obtain ⟨rfl, hX9⟩ := hX9
    refine vx_catch (name := nIAE) hown [] ⟨0, 9, 12, 14⟩ [] htab (fun z hz => absurd hz List.not_mem_nil) (by decide) (by decide) (hts (.classLink RL 14 nIAE) (by decide +kernel)) (va_Nw.use rfl (hE.1.2.2.2.2.2.2.2.1 (.castable nIAE nIAE) (by decide +kernel))) hc9 hv9 hf9 ?_
    refine lv_astore (lv' := [(5, .ref q9), (0, .ref x0), (1, .int f), (2, .int e), (3, .int x)]) hx hb dL_revised_12 hl (by decide) rfl (fun ls hl => ?_)
    refine lv_bipush (v := (-72)) hx hb dL_revised_14 (by decide +kernel) ?_
    exact W.iret (v := ((-72))) hx hb hr (fun u9 hu9 hW => ⟨((-72)), rfl, Or.inr ⟨hX9, rfl⟩, kH.F (⟨hz9, hk9⟩ : kH s.heap H1) hu9⟩) (fun z hz => absurd hz List.not_mem_nil) dL_revised_16
  · obtain ⟨hok, rfl⟩ := hr_
    refine lv_istore (lv' := [(4, .int (nI (q_rev σ (plN f e) (cl x) (s_now σ / cl x + 1)))), (0, .ref x0), (1, .int f), (2, .int e), (3, .int x)]) hx hb dL_revised_7 hl (by decide) rfl (fun ls hl => ?_)
    refine lv_goto (tgt := 17) hx hb dL_revised_9 (by decide) ?_
    refine lv_iload hx hb dL_revised_17 (lv_at hl 0 rfl) ?_
    exact W.iret (v := nI (q_rev σ (plN f e) (cl x) (s_now σ / cl x + 1))) hx hb hr (fun u9 hu9 hW => ⟨nI (q_rev σ (plN f e) (cl x) (s_now σ / cl x + 1)), rfl, Or.inl ⟨hok, rfl⟩, kH.F kH.rf hu9⟩) (fun z hz => absurd hz List.not_mem_nil) dL_revised_19

set_option maxHeartbeats 4000000 in
set_option maxRecDepth 100000 in
theorem c_L_online (l : Launch) (dD : va_G) (cI cR cS : ClassId) (lo : Nat) (hfl : l.stackTraces = false) (x0 : Nat) (b ra sb hd ol : Nat → Nat) (σ : St) (hI : sI σ) (hX : xI σ hd ol) (f e : Int32) : Met l yL_online wsL_online ({ frames := 9, cells := 2, slots := 12, locals := 147 }) (ePc dD cI cR cS lo [.ref x0, .int f, .int e] (fun H => va_P dD vwCl (xW cI cR cS x0 b ra sb hd ol σ) H)) (lK (fun r => ((okP f e) ∧ r = eN (q_fr σ (s_cp σ (plN f e)) (s_now σ))) ∨ (¬ (okP f e) ∧ r = (-72)))) 2 12 (fun _ => False) := by
  refine Met.ofWH (cc := cL_online) (maxL := 5) (ret := (some .int)) (by decide) rfl ?_
  intro p e_ s m args below meth c s₁ B hml hv
  obtain ⟨rfl, hE, hP⟩ := hv
  have hx := B.exec
  have hb := B.bytes
  have hr := B.returns
  have hts := atoms_spec (ws := wsL_online) B.pre
  have hown : s.vm.findClass RL = some m.cls := findClass_of_methodNamed B.named
  have hlocks := B.notSynchronized
  have hK := hE.1.1
  have hl := lv_entry ([.ref x0, .int f, .int e]) (n := 5) (Nat.le_of_ble_eq_true rfl)
  rw [lg_entry_eq]
  generalize (lg_sl ([.ref x0, .int f, .int e]) ++ List.replicate (5 - (lg_sl ([.ref x0, .int f, .int e])).length) Slot.unset).toArray = ls at hl ⊢
  have hl : lv_has ls 5 [(0, .ref x0), (1, .int f), (2, .int e)] := hl
  refine lv_aload_n hx hb dL_online_0 rfl (lv_at hl 0 rfl) ?_
  refine lv_iload_n hx hb dL_online_1 rfl (lv_at hl 1 rfl) ?_
  refine lv_iload_n hx hb dL_online_2 rfl (lv_at hl 2 rfl) ?_
  have htab : c.exceptionTable.toList = tableOf [(0, 7, 10, 14)] := vx_table (x := yL_online) B (hts _ List.mem_cons_self)
  refine nx_calli (vx_runV (As := [.int f, .int e]) (rest := []) ⟨hx, hb, hml, hown, hts⟩ (c_X2_online l dD cI cR cS lo hfl x0 b ra sb hd ol σ hI f e) (cwV 2 hts gL_online_X2_online rfl rfl rfl (by decide +kernel) ⟨Nat.le_of_ble_eq_true rfl, Nat.le_of_ble_eq_true rfl⟩) (ePreV hE va_S.rf hP (k := 0) rfl rfl hP) rfl rfl hl.1 rfl (lv_room (Nat.le_of_ble_eq_true rfl)) dL_online_3 ⟨Nat.le_of_ble_eq_true rfl, Nat.le_of_ble_eq_true rfl⟩) (fun E ce q9 H1 hX9 hz9 hk9 hc9 hv9 hf9 => ?_) (fun r_ hr_ => ?_)
  · obtain ⟨rfl, hX9⟩ := hX9
    refine vx_catch (name := nIAE) hown [] ⟨0, 7, 10, 14⟩ [] htab (fun z hz => absurd hz List.not_mem_nil) (by decide) (by decide) (hts (.classLink RL 14 nIAE) (by decide +kernel)) (va_Nw.use rfl (hE.1.2.2.2.2.2.2.2.1 (.castable nIAE nIAE) (by decide +kernel))) hc9 hv9 hf9 ?_
    refine lv_astore (lv' := [(4, .ref q9), (0, .ref x0), (1, .int f), (2, .int e)]) hx hb dL_online_10 hl (by decide) rfl (fun ls hl => ?_)
    refine lv_bipush (v := (-72)) hx hb dL_online_12 (by decide +kernel) ?_
    exact W.iret (v := ((-72))) hx hb hr (fun u9 hu9 hW => ⟨((-72)), rfl, Or.inr ⟨hX9, rfl⟩, kH.F (⟨hz9, hk9⟩ : kH s.heap H1) hu9⟩) (fun z hz => absurd hz List.not_mem_nil) dL_online_14
  · obtain ⟨hok, rfl⟩ := hr_
    refine lv_istore_n (lv' := [(3, .int (eN (q_fr σ (s_cp σ (plN f e)) (s_now σ)))), (0, .ref x0), (1, .int f), (2, .int e)]) hx hb dL_online_6 rfl hl (by decide) rfl (fun ls hl => ?_)
    refine lv_goto (tgt := 15) hx hb dL_online_7 (by decide) ?_
    refine lv_iload_n hx hb dL_online_15 rfl (lv_at hl 0 rfl) ?_
    exact W.iret (v := eN (q_fr σ (s_cp σ (plN f e)) (s_now σ))) hx hb hr (fun u9 hu9 hW => ⟨eN (q_fr σ (s_cp σ (plN f e)) (s_now σ)), rfl, Or.inl ⟨hok, rfl⟩, kH.F kH.rf hu9⟩) (fun z hz => absurd hz List.not_mem_nil) dL_online_16

set_option maxHeartbeats 4000000 in
set_option maxRecDepth 100000 in
theorem c_L_served (l : Launch) (dD : va_G) (cI cR cS : ClassId) (lo : Nat) (hfl : l.stackTraces = false) (x0 : Nat) (b ra sb hd ol : Nat → Nat) (σ : St) (hI : sI σ) (hX : xI σ hd ol) (x : Int32) : Met l yL_served wsL_served ({ frames := 8, cells := 1, slots := 6, locals := 124 }) (ePc dD cI cR cS lo [.ref x0, .int x] (fun H => va_P dD vwCl (xW cI cR cS x0 b ra sb hd ol σ) H)) (lK (fun r => ((ri x (s_k σ)) ∧ r = eN (s_sv σ (cl x))) ∨ (¬ (ri x (s_k σ)) ∧ r = (-71)))) 1 6 (fun _ => False) := by
  refine Met.ofWH (cc := cL_served) (maxL := 4) (ret := (some .int)) (by decide) rfl ?_
  intro p e_ s m args below meth c s₁ B hml hv
  obtain ⟨rfl, hE, hP⟩ := hv
  have hx := B.exec
  have hb := B.bytes
  have hr := B.returns
  have hts := atoms_spec (ws := wsL_served) B.pre
  have hown : s.vm.findClass RL = some m.cls := findClass_of_methodNamed B.named
  have hlocks := B.notSynchronized
  have hK := hE.1.1
  have hl := lv_entry ([.ref x0, .int x]) (n := 4) (Nat.le_of_ble_eq_true rfl)
  rw [lg_entry_eq]
  generalize (lg_sl ([.ref x0, .int x]) ++ List.replicate (4 - (lg_sl ([.ref x0, .int x])).length) Slot.unset).toArray = ls at hl ⊢
  have hl : lv_has ls 4 [(0, .ref x0), (1, .int x)] := hl
  refine lv_aload_n hx hb dL_served_0 rfl (lv_at hl 0 rfl) ?_
  refine lv_iload_n hx hb dL_served_1 rfl (lv_at hl 1 rfl) ?_
  have htab : c.exceptionTable.toList = tableOf [(0, 6, 9, 29)] := vx_table (x := yL_served) B (hts _ List.mem_cons_self)
  refine nx_calli (vx_runV (As := [.int x]) (rest := []) ⟨hx, hb, hml, hown, hts⟩ (c_X2_served l dD cI cR cS lo hfl x0 b ra sb hd ol σ hI x) (cwV 1 hts gL_served_X2_served rfl rfl rfl (by decide +kernel) ⟨Nat.le_of_ble_eq_true rfl, Nat.le_of_ble_eq_true rfl⟩) (ePreV hE va_S.rf hP (k := 0) rfl rfl hP) rfl rfl hl.1 rfl (lv_room (Nat.le_of_ble_eq_true rfl)) dL_served_2 ⟨Nat.le_of_ble_eq_true rfl, Nat.le_of_ble_eq_true rfl⟩) (fun E ce q9 H1 hX9 hz9 hk9 hc9 hv9 hf9 => ?_) (fun r_ hr_ => ?_)
  · obtain ⟨rfl, hX9⟩ := hX9
    refine vx_catch (name := nIOB) hown [] ⟨0, 6, 9, 29⟩ [] htab (fun z hz => absurd hz List.not_mem_nil) (by decide) (by decide) (hts (.classLink RL 29 nIOB) (by decide +kernel)) (va_Nw.use rfl (hE.1.2.2.2.2.2.2.2.1 (.castable nIOB nIOB) (by decide +kernel))) hc9 hv9 hf9 ?_
    refine lv_astore_n (lv' := [(3, .ref q9), (0, .ref x0), (1, .int x)]) hx hb dL_served_9 rfl hl (by decide) rfl (fun ls hl => ?_)
    refine lv_bipush (v := (-71)) hx hb dL_served_10 (by decide +kernel) ?_
    exact W.iret (v := ((-71))) hx hb hr (fun u9 hu9 hW => ⟨((-71)), rfl, Or.inr ⟨hX9, rfl⟩, kH.F (⟨hz9, hk9⟩ : kH s.heap H1) hu9⟩) (fun z hz => absurd hz List.not_mem_nil) dL_served_12
  · obtain ⟨hok, rfl⟩ := hr_
    refine lv_istore_n (lv' := [(2, .int (eN (s_sv σ (cl x)))), (0, .ref x0), (1, .int x)]) hx hb dL_served_5 rfl hl (by decide) rfl (fun ls hl => ?_)
    refine lv_goto (tgt := 13) hx hb dL_served_6 (by decide) ?_
    refine lv_iload_n hx hb dL_served_13 rfl (lv_at hl 0 rfl) ?_
    exact W.iret (v := eN (s_sv σ (cl x))) hx hb hr (fun u9 hu9 hW => ⟨eN (s_sv σ (cl x)), rfl, Or.inl ⟨hok, rfl⟩, kH.F kH.rf hu9⟩) (fun z hz => absurd hz List.not_mem_nil) dL_served_14

set_option maxHeartbeats 4000000 in
set_option maxRecDepth 100000 in
theorem c_L_isSound (l : Launch) (dD : va_G) (cI cR cS : ClassId) (lo : Nat) (hfl : l.stackTraces = false) (x0 : Nat) (b ra sb hd ol : Nat → Nat) (σ : St) (hI : sI σ) (hX : xI σ hd ol) (x : Int32) : Met l yL_isSound wsL_isSound ({ frames := 8, cells := 1, slots := 6, locals := 125 }) (ePc dD cI cR cS lo [.ref x0, .int x] (fun H => va_P dD vwCl (xW cI cR cS x0 b ra sb hd ol σ) H)) (lK (fun r => ((ri x (s_k σ)) ∧ r = nI (q_snd σ (cl x))) ∨ (¬ (ri x (s_k σ)) ∧ r = (-71)))) 1 6 (fun _ => False) := by
  refine Met.ofWH (cc := cL_isSound) (maxL := 4) (ret := (some .int)) (by decide) rfl ?_
  intro p e_ s m args below meth c s₁ B hml hv
  obtain ⟨rfl, hE, hP⟩ := hv
  have hx := B.exec
  have hb := B.bytes
  have hr := B.returns
  have hts := atoms_spec (ws := wsL_isSound) B.pre
  have hown : s.vm.findClass RL = some m.cls := findClass_of_methodNamed B.named
  have hlocks := B.notSynchronized
  have hK := hE.1.1
  have hl := lv_entry ([.ref x0, .int x]) (n := 4) (Nat.le_of_ble_eq_true rfl)
  rw [lg_entry_eq]
  generalize (lg_sl ([.ref x0, .int x]) ++ List.replicate (4 - (lg_sl ([.ref x0, .int x])).length) Slot.unset).toArray = ls at hl ⊢
  have hl : lv_has ls 4 [(0, .ref x0), (1, .int x)] := hl
  refine lv_aload_n hx hb dL_isSound_0 rfl (lv_at hl 0 rfl) ?_
  refine lv_iload_n hx hb dL_isSound_1 rfl (lv_at hl 1 rfl) ?_
  have htab : c.exceptionTable.toList = tableOf [(0, 6, 9, 29)] := vx_table (x := yL_isSound) B (hts _ List.mem_cons_self)
  refine nx_calli (vx_runV (As := [.int x]) (rest := []) ⟨hx, hb, hml, hown, hts⟩ (c_X2_isSound l dD cI cR cS lo hfl x0 b ra sb hd ol σ hI hX x) (cwV 1 hts gL_isSound_X2_isSound rfl rfl rfl (by decide +kernel) ⟨Nat.le_of_ble_eq_true rfl, Nat.le_of_ble_eq_true rfl⟩) (ePreV hE va_S.rf hP (k := 0) rfl rfl hP) rfl rfl hl.1 rfl (lv_room (Nat.le_of_ble_eq_true rfl)) dL_isSound_2 ⟨Nat.le_of_ble_eq_true rfl, Nat.le_of_ble_eq_true rfl⟩) (fun E ce q9 H1 hX9 hz9 hk9 hc9 hv9 hf9 => ?_) (fun r_ hr_ => ?_)
  · obtain ⟨rfl, hX9⟩ := hX9
    refine vx_catch (name := nIOB) hown [] ⟨0, 6, 9, 29⟩ [] htab (fun z hz => absurd hz List.not_mem_nil) (by decide) (by decide) (hts (.classLink RL 29 nIOB) (by decide +kernel)) (va_Nw.use rfl (hE.1.2.2.2.2.2.2.2.1 (.castable nIOB nIOB) (by decide +kernel))) hc9 hv9 hf9 ?_
    refine lv_astore_n (lv' := [(3, .ref q9), (0, .ref x0), (1, .int x)]) hx hb dL_isSound_9 rfl hl (by decide) rfl (fun ls hl => ?_)
    refine lv_bipush (v := (-71)) hx hb dL_isSound_10 (by decide +kernel) ?_
    exact W.iret (v := ((-71))) hx hb hr (fun u9 hu9 hW => ⟨((-71)), rfl, Or.inr ⟨hX9, rfl⟩, kH.F (⟨hz9, hk9⟩ : kH s.heap H1) hu9⟩) (fun z hz => absurd hz List.not_mem_nil) dL_isSound_12
  · obtain ⟨hok, rfl⟩ := hr_
    refine lv_istore_n (lv' := [(2, .int (nI (q_snd σ (cl x)))), (0, .ref x0), (1, .int x)]) hx hb dL_isSound_5 rfl hl (by decide) rfl (fun ls hl => ?_)
    refine lv_goto (tgt := 13) hx hb dL_isSound_6 (by decide) ?_
    refine lv_iload_n hx hb dL_isSound_13 rfl (lv_at hl 0 rfl) ?_
    refine nv_if_eq (tgt := 21) hx hb dL_isSound_14 (by decide) (by have h9 := q_snd_01 σ (cl x); omega) (fun c_14 => ?_) (fun c_14 => ?_)
    · refine lv_iconst (v := nI 0) hx hb dL_isSound_21 (by decide +kernel) ?_
      exact W.iret (v := nI 0) hx hb hr (fun u9 hu9 hW => ⟨nI 0, rfl, Or.inl ⟨hok, by rw [c_14]⟩, kH.F kH.rf hu9⟩) (fun z hz => absurd hz List.not_mem_nil) dL_isSound_22
    · refine lv_iconst (v := nI 1) hx hb dL_isSound_17 (by decide +kernel) ?_
      refine lv_goto (tgt := 22) hx hb dL_isSound_18 (by decide) ?_
      exact W.iret (v := nI 1) hx hb hr (fun u9 hu9 hW => ⟨nI 1, rfl, Or.inl ⟨hok, by rw [show q_snd σ (cl x) = 1 from by have h9 := q_snd_01 σ (cl x); omega]⟩, kH.F kH.rf hu9⟩) (fun z hz => absurd hz List.not_mem_nil) dL_isSound_22

set_option maxHeartbeats 4000000 in
set_option maxRecDepth 100000 in
theorem c_L_arrive_no (l : Launch) (dD : va_G) (cI cR cS : ClassId) (lo : Nat) (hfl : l.stackTraces = false) (sz : Nat) (hlo : lo ≤ sz) (x0 : Nat) (b ra sb hd ol : Nat → Nat) (σ : St) (hI : sI σ) (hX : xI σ hd ol) (hJ : xJ σ hd ol) (f e v y : Int32) (hn : ¬ (okP f e ∧ rg v 0 (s_now σ) ∧ rg y 0 100000)) : Met l yL_arrive wsL_arrive ({ frames := 9, cells := 5, slots := 31, locals := 150 }) (ePc dD cI cR cS lo [.ref x0, .int f, .int e, .int v, .int y] (fun H => H.size = sz ∧ va_P dD vwCl (xW cI cR cS x0 b ra sb hd ol σ) H ∧ va_D (fun q => lo ≤ q) (xW cI cR cS x0 b ra sb hd ol σ))) (va_Qi (fun (r : Int32) (_ : Unit) => r = (-72)) (fun _ _ => True) (fun _ => False)) 5 31 (va_A (xW cI cR cS x0 b ra sb hd ol σ) sz) := by
  refine Met.ofWH (cc := cL_arrive) (maxL := 7) (ret := (some .int)) (by decide) rfl ?_
  intro p e_ s m args below meth c s₁ B hml hv
  obtain ⟨rfl, hE, hsz, hP, hD0⟩ := hv
  have hx := B.exec
  have hb := B.bytes
  have hr := B.returns
  have hts := atoms_spec (ws := wsL_arrive) B.pre
  have hown : s.vm.findClass RL = some m.cls := findClass_of_methodNamed B.named
  have hlocks := B.notSynchronized
  have hK := hE.1.1
  subst hsz
  have hD := hD0.self (sz := s.heap.size)
  have hS : va_S (va_A (xW cI cR cS x0 b ra sb hd ol σ) s.heap.size) s.heap s.heap [] := va_S.rf
  have hP : va_P dD vwCl (xW cI cR cS x0 b ra sb hd ol σ) s.heap := hP
  have hl := lv_entry ([.ref x0, .int f, .int e, .int v, .int y]) (n := 7) (Nat.le_of_ble_eq_true rfl)
  rw [lg_entry_eq]
  generalize (lg_sl ([.ref x0, .int f, .int e, .int v, .int y]) ++ List.replicate (7 - (lg_sl ([.ref x0, .int f, .int e, .int v, .int y])).length) Slot.unset).toArray = ls at hl ⊢
  have hl : lv_has ls 7 [(0, .ref x0), (1, .int f), (2, .int e), (3, .int v), (4, .int y)] := hl
  refine lv_aload_n hx hb dL_arrive_0 rfl (lv_at hl 0 rfl) ?_
  refine lv_iload_n hx hb dL_arrive_1 rfl (lv_at hl 1 rfl) ?_
  refine lv_iload_n hx hb dL_arrive_2 rfl (lv_at hl 2 rfl) ?_
  refine lv_iload_n hx hb dL_arrive_3 rfl (lv_at hl 3 rfl) ?_
  refine lv_iload hx hb dL_arrive_4 (lv_at hl 4 rfl) ?_
  have htab : c.exceptionTable.toList = tableOf [(0, 11, 14, 14)] := vx_table (x := yL_arrive) B (hts _ List.mem_cons_self)
  refine nx_callw (vx_runV (As := [.int f, .int e, .int v, .int y]) (rest := []) ⟨hx, hb, hml, hown, hts⟩ (c_X2_arrive l dD cI cR cS lo hfl s.heap.size hlo x0 b ra sb hd ol σ hI hX hJ f e v y) (cwV 4 hts gL_arrive_X2_arrive rfl rfl rfl (by decide +kernel) ⟨Nat.le_of_ble_eq_true rfl, Nat.le_of_ble_eq_true rfl⟩) (ePreV hE va_S.rf hP (k := 0) rfl rfl ⟨rfl, hP, hD0⟩) rfl rfl hl.1 rfl (lv_room (Nat.le_of_ble_eq_true rfl)) dL_arrive_6 ⟨Nat.le_of_ble_eq_true rfl, Nat.le_of_ble_eq_true rfl⟩) hS (fun q _ h => h) (fun q h => h) (fun E ce q9 H1 locs hX9 hz9 hk9 hS hc9 hv9 hf9 => ?_) (fun r_ u_ t_ H1 locs ht_ hvm_ hw_ hB_ hz_ hk_ hS => ?_)
  · rcases hX9 with ⟨rfl, hX9⟩ | ⟨rfl, hX9, hX8⟩
    · refine vx_catch (name := nIAE) hown [] ⟨0, 11, 14, 14⟩ [] htab (fun z hz => absurd hz List.not_mem_nil) (by decide) (by decide) (hts (.classLink RL 14 nIAE) (by decide +kernel)) (va_Nw.use rfl (hE.1.2.2.2.2.2.2.2.1 (.castable nIAE nIAE) (by decide +kernel))) hc9 hv9 hf9 ?_
      refine lv_astore (lv' := [(6, .ref q9), (0, .ref x0), (1, .int f), (2, .int e), (3, .int v), (4, .int y)]) hx hb dL_arrive_14 hl (by decide) rfl (fun ls hl => ?_)
      refine lv_bipush (v := (-72)) hx hb dL_arrive_16 (by decide +kernel) ?_
      exact W.iret (v := ((-72))) hx hb hr (fun u9 hu9 hW => ⟨⟨((-72)), (), rfl, rfl, trivial⟩, by rw [hu9]; exact hz9, fun q hq _ => by rw [hu9]; exact hk9 q hq⟩) hS.2.2 dL_arrive_18
    · exact absurd hX9 hn
  · exact absurd hw_.1.1 hn

set_option maxHeartbeats 4000000 in
set_option maxRecDepth 100000 in
theorem c_L_pass_no (l : Launch) (dD : va_G) (cI cR cS : ClassId) (lo : Nat) (hfl : l.stackTraces = false) (sz : Nat) (hlo : lo ≤ sz) (x0 : Nat) (b ra sb hd ol : Nat → Nat) (σ : St) (hI : sI σ) (hX : xI σ hd ol) (hJ : xJ σ hd ol) (t : Int32) (hn : ¬ rg t 1 10000) : Met l yL_pass wsL_pass ({ frames := 8, cells := 2, slots := 12, locals := 125 }) (ePc dD cI cR cS lo [.ref x0, .int t] (fun H => H.size = sz ∧ va_P dD vwCl (xW cI cR cS x0 b ra sb hd ol σ) H ∧ va_D (fun q => lo ≤ q) (xW cI cR cS x0 b ra sb hd ol σ))) (va_Qi (fun (r : Int32) (_ : Unit) => r = (-72)) (fun _ _ => True) (fun _ => False)) 2 12 (va_A (xW cI cR cS x0 b ra sb hd ol σ) sz) := by
  refine Met.ofWH (cc := cL_pass) (maxL := 4) (ret := (some .int)) (by decide) rfl ?_
  intro p e_ s m args below meth c s₁ B hml hv
  obtain ⟨rfl, hE, hsz, hP, hD0⟩ := hv
  have hx := B.exec
  have hb := B.bytes
  have hr := B.returns
  have hts := atoms_spec (ws := wsL_pass) B.pre
  have hown : s.vm.findClass RL = some m.cls := findClass_of_methodNamed B.named
  have hlocks := B.notSynchronized
  have hK := hE.1.1
  subst hsz
  have hD := hD0.self (sz := s.heap.size)
  have hS : va_S (va_A (xW cI cR cS x0 b ra sb hd ol σ) s.heap.size) s.heap s.heap [] := va_S.rf
  have hP : va_P dD vwCl (xW cI cR cS x0 b ra sb hd ol σ) s.heap := hP
  have hl := lv_entry ([.ref x0, .int t]) (n := 4) (Nat.le_of_ble_eq_true rfl)
  rw [lg_entry_eq]
  generalize (lg_sl ([.ref x0, .int t]) ++ List.replicate (4 - (lg_sl ([.ref x0, .int t])).length) Slot.unset).toArray = ls at hl ⊢
  have hl : lv_has ls 4 [(0, .ref x0), (1, .int t)] := hl
  refine lv_aload_n hx hb dL_pass_0 rfl (lv_at hl 0 rfl) ?_
  refine lv_iload_n hx hb dL_pass_1 rfl (lv_at hl 1 rfl) ?_
  have htab : c.exceptionTable.toList = tableOf [(0, 6, 9, 14), (0, 6, 13, 20)] := vx_table (x := yL_pass) B (hts _ List.mem_cons_self)
  refine nx_callw (vx_runV (As := [.int t]) (rest := []) ⟨hx, hb, hml, hown, hts⟩ (c_X2_pass l dD cI cR cS lo hfl s.heap.size hlo x0 b ra sb hd ol σ hI t) (cwV 1 hts gL_pass_X2_pass rfl rfl rfl (by decide +kernel) ⟨Nat.le_of_ble_eq_true rfl, Nat.le_of_ble_eq_true rfl⟩) (ePreV hE va_S.rf hP (k := 0) rfl rfl ⟨rfl, hP, hD0⟩) rfl rfl hl.1 rfl (lv_room (Nat.le_of_ble_eq_true rfl)) dL_pass_2 ⟨Nat.le_of_ble_eq_true rfl, Nat.le_of_ble_eq_true rfl⟩) hS (fun q _ h => h) (fun q h => h) (fun E ce q9 H1 locs hX9 hz9 hk9 hS hc9 hv9 hf9 => ?_) (fun r_ u_ t_ H1 locs ht_ hvm_ hw_ hB_ hz_ hk_ hS => ?_)
  · rcases hX9 with ⟨rfl, hX9⟩ | ⟨rfl, hX9, hX8⟩
    · refine vx_catch (name := nIAE) hown [] ⟨0, 6, 9, 14⟩ [⟨0, 6, 13, 20⟩] htab (fun z hz => absurd hz List.not_mem_nil) (by decide) (by decide) (hts (.classLink RL 14 nIAE) (by decide +kernel)) (va_Nw.use rfl (hE.1.2.2.2.2.2.2.2.1 (.castable nIAE nIAE) (by decide +kernel))) hc9 hv9 hf9 ?_
      refine lv_astore_n (lv' := [(3, .ref q9), (0, .ref x0), (1, .int t)]) hx hb dL_pass_9 rfl hl (by decide) rfl (fun ls hl => ?_)
      refine lv_bipush (v := (-72)) hx hb dL_pass_10 (by decide +kernel) ?_
      exact W.iret (v := ((-72))) hx hb hr (fun u9 hu9 hW => ⟨⟨((-72)), (), rfl, rfl, trivial⟩, by rw [hu9]; exact hz9, fun q hq _ => by rw [hu9]; exact hk9 q hq⟩) hS.2.2 dL_pass_12
    · exact absurd hX9 hn
  · exact absurd hw_.1.1 hn

set_option maxHeartbeats 4000000 in
set_option maxRecDepth 100000 in
theorem c_L_pass_st (l : Launch) (dD : va_G) (cI cR cS : ClassId) (lo : Nat) (hfl : l.stackTraces = false) (sz : Nat) (hlo : lo ≤ sz) (x0 : Nat) (b ra sb hd ol : Nat → Nat) (σ : St) (hI : sI σ) (hX : xI σ hd ol) (hJ : xJ σ hd ol) (t : Int32) (hn : rg t 1 10000 ∧ ¬ s_now σ + cl t ≤ 10000) : Met l yL_pass wsL_pass ({ frames := 8, cells := 2, slots := 12, locals := 125 }) (ePc dD cI cR cS lo [.ref x0, .int t] (fun H => H.size = sz ∧ va_P dD vwCl (xW cI cR cS x0 b ra sb hd ol σ) H ∧ va_D (fun q => lo ≤ q) (xW cI cR cS x0 b ra sb hd ol σ))) (va_Qi (fun (r : Int32) (_ : Unit) => r = (-73)) (fun _ _ => True) (fun _ => False)) 2 12 (va_A (xW cI cR cS x0 b ra sb hd ol σ) sz) := by
  refine Met.ofWH (cc := cL_pass) (maxL := 4) (ret := (some .int)) (by decide) rfl ?_
  intro p e_ s m args below meth c s₁ B hml hv
  obtain ⟨rfl, hE, hsz, hP, hD0⟩ := hv
  have hx := B.exec
  have hb := B.bytes
  have hr := B.returns
  have hts := atoms_spec (ws := wsL_pass) B.pre
  have hown : s.vm.findClass RL = some m.cls := findClass_of_methodNamed B.named
  have hlocks := B.notSynchronized
  have hK := hE.1.1
  subst hsz
  have hD := hD0.self (sz := s.heap.size)
  have hS : va_S (va_A (xW cI cR cS x0 b ra sb hd ol σ) s.heap.size) s.heap s.heap [] := va_S.rf
  have hP : va_P dD vwCl (xW cI cR cS x0 b ra sb hd ol σ) s.heap := hP
  have hl := lv_entry ([.ref x0, .int t]) (n := 4) (Nat.le_of_ble_eq_true rfl)
  rw [lg_entry_eq]
  generalize (lg_sl ([.ref x0, .int t]) ++ List.replicate (4 - (lg_sl ([.ref x0, .int t])).length) Slot.unset).toArray = ls at hl ⊢
  have hl : lv_has ls 4 [(0, .ref x0), (1, .int t)] := hl
  refine lv_aload_n hx hb dL_pass_0 rfl (lv_at hl 0 rfl) ?_
  refine lv_iload_n hx hb dL_pass_1 rfl (lv_at hl 1 rfl) ?_
  have htab : c.exceptionTable.toList = tableOf [(0, 6, 9, 14), (0, 6, 13, 20)] := vx_table (x := yL_pass) B (hts _ List.mem_cons_self)
  refine nx_callw (vx_runV (As := [.int t]) (rest := []) ⟨hx, hb, hml, hown, hts⟩ (c_X2_pass l dD cI cR cS lo hfl s.heap.size hlo x0 b ra sb hd ol σ hI t) (cwV 1 hts gL_pass_X2_pass rfl rfl rfl (by decide +kernel) ⟨Nat.le_of_ble_eq_true rfl, Nat.le_of_ble_eq_true rfl⟩) (ePreV hE va_S.rf hP (k := 0) rfl rfl ⟨rfl, hP, hD0⟩) rfl rfl hl.1 rfl (lv_room (Nat.le_of_ble_eq_true rfl)) dL_pass_2 ⟨Nat.le_of_ble_eq_true rfl, Nat.le_of_ble_eq_true rfl⟩) hS (fun q _ h => h) (fun q h => h) (fun E ce q9 H1 locs hX9 hz9 hk9 hS hc9 hv9 hf9 => ?_) (fun r_ u_ t_ H1 locs ht_ hvm_ hw_ hB_ hz_ hk_ hS => ?_)
  · rcases hX9 with ⟨rfl, hX9⟩ | ⟨rfl, hX9, hX8⟩
    · exact absurd hn.1 hX9
    · refine vx_catch (name := nISE) hown [⟨0, 6, 9, 14⟩] ⟨0, 6, 13, 20⟩ [] htab (fun z hz => by rw [List.mem_singleton.mp hz]; exact Or.inr ⟨by decide, nIAE, hts (.classLink RL 14 nIAE) (by decide +kernel), hE.1.2.2.2.2.2.2.2.2⟩) (by decide) (by decide) (hts (.classLink RL 20 nISE) (by decide +kernel)) (va_Nw.use rfl (hE.1.2.2.2.2.2.2.2.1 (.castable nISE nISE) (by decide +kernel))) hc9 hv9 hf9 ?_
      refine lv_astore_n (lv' := [(3, .ref q9), (0, .ref x0), (1, .int t)]) hx hb dL_pass_13 rfl hl (by decide) rfl (fun ls hl => ?_)
      refine lv_bipush (v := (-73)) hx hb dL_pass_14 (by decide +kernel) ?_
      exact W.iret (v := ((-73))) hx hb hr (fun u9 hu9 hW => ⟨⟨((-73)), (), rfl, rfl, trivial⟩, by rw [hu9]; exact hz9, fun q hq _ => by rw [hu9]; exact hk9 q hq⟩) hS.2.2 dL_pass_16
  · exact absurd hw_.1.2 hn.2

set_option maxHeartbeats 4000000 in
set_option maxRecDepth 100000 in
theorem c_L_setLifetime_no (l : Launch) (dD : va_G) (cI cR cS : ClassId) (lo : Nat) (hfl : l.stackTraces = false) (sz : Nat) (hlo : lo ≤ sz) (x0 : Nat) (b ra sb hd ol : Nat → Nat) (σ : St) (hI : sI σ) (hX : xI σ hd ol) (hJ : xJ σ hd ol) (f t : Int32) (hn : ¬ (rg f 0 5 ∧ rg t 0 10000)) : Met l yL_setLifetime wsL_setLifetime ({ frames := 8, cells := 2, slots := 12, locals := 127 }) (ePc dD cI cR cS lo [.ref x0, .int f, .int t] (fun H => H.size = sz ∧ va_P dD vwCl (xW cI cR cS x0 b ra sb hd ol σ) H ∧ va_D (fun q => lo ≤ q) (xW cI cR cS x0 b ra sb hd ol σ))) (va_Qi (fun (r : Int32) (_ : Unit) => r = (-72)) (fun _ _ => True) (fun _ => False)) 2 12 (va_A (xW cI cR cS x0 b ra sb hd ol σ) sz) := by
  refine Met.ofWH (cc := cL_setLifetime) (maxL := 5) (ret := (some .int)) (by decide) rfl ?_
  intro p e_ s m args below meth c s₁ B hml hv
  obtain ⟨rfl, hE, hsz, hP, hD0⟩ := hv
  have hx := B.exec
  have hb := B.bytes
  have hr := B.returns
  have hts := atoms_spec (ws := wsL_setLifetime) B.pre
  have hown : s.vm.findClass RL = some m.cls := findClass_of_methodNamed B.named
  have hlocks := B.notSynchronized
  have hK := hE.1.1
  subst hsz
  have hD := hD0.self (sz := s.heap.size)
  have hS : va_S (va_A (xW cI cR cS x0 b ra sb hd ol σ) s.heap.size) s.heap s.heap [] := va_S.rf
  have hP : va_P dD vwCl (xW cI cR cS x0 b ra sb hd ol σ) s.heap := hP
  have hl := lv_entry ([.ref x0, .int f, .int t]) (n := 5) (Nat.le_of_ble_eq_true rfl)
  rw [lg_entry_eq]
  generalize (lg_sl ([.ref x0, .int f, .int t]) ++ List.replicate (5 - (lg_sl ([.ref x0, .int f, .int t])).length) Slot.unset).toArray = ls at hl ⊢
  have hl : lv_has ls 5 [(0, .ref x0), (1, .int f), (2, .int t)] := hl
  refine lv_aload_n hx hb dL_setLifetime_0 rfl (lv_at hl 0 rfl) ?_
  refine lv_iload_n hx hb dL_setLifetime_1 rfl (lv_at hl 1 rfl) ?_
  refine lv_iload_n hx hb dL_setLifetime_2 rfl (lv_at hl 2 rfl) ?_
  have htab : c.exceptionTable.toList = tableOf [(0, 7, 10, 14)] := vx_table (x := yL_setLifetime) B (hts _ List.mem_cons_self)
  refine nx_callw (vx_runV (As := [.int f, .int t]) (rest := []) ⟨hx, hb, hml, hown, hts⟩ (c_X2_setLifetime l dD cI cR cS lo hfl s.heap.size hlo x0 b ra sb hd ol σ hI f t) (cwV 2 hts gL_setLifetime_X2_setLifetime rfl rfl rfl (by decide +kernel) ⟨Nat.le_of_ble_eq_true rfl, Nat.le_of_ble_eq_true rfl⟩) (ePreV hE va_S.rf hP (k := 0) rfl rfl ⟨rfl, hP, hD0⟩) rfl rfl hl.1 rfl (lv_room (Nat.le_of_ble_eq_true rfl)) dL_setLifetime_3 ⟨Nat.le_of_ble_eq_true rfl, Nat.le_of_ble_eq_true rfl⟩) hS (fun q _ h => h) (fun q h => h) (fun E ce q9 H1 locs hX9 hz9 hk9 hS hc9 hv9 hf9 => ?_) (fun r_ u_ t_ H1 locs ht_ hvm_ hw_ hB_ hz_ hk_ hS => ?_)
  · obtain ⟨rfl, hX9⟩ := hX9
    refine vx_catch (name := nIAE) hown [] ⟨0, 7, 10, 14⟩ [] htab (fun z hz => absurd hz List.not_mem_nil) (by decide) (by decide) (hts (.classLink RL 14 nIAE) (by decide +kernel)) (va_Nw.use rfl (hE.1.2.2.2.2.2.2.2.1 (.castable nIAE nIAE) (by decide +kernel))) hc9 hv9 hf9 ?_
    refine lv_astore (lv' := [(4, .ref q9), (0, .ref x0), (1, .int f), (2, .int t)]) hx hb dL_setLifetime_10 hl (by decide) rfl (fun ls hl => ?_)
    refine lv_bipush (v := (-72)) hx hb dL_setLifetime_12 (by decide +kernel) ?_
    exact W.iret (v := ((-72))) hx hb hr (fun u9 hu9 hW => ⟨⟨((-72)), (), rfl, rfl, trivial⟩, by rw [hu9]; exact hz9, fun q hq _ => by rw [hu9]; exact hk9 q hq⟩) hS.2.2 dL_setLifetime_14
  · exact absurd hw_.1 hn

set_option maxHeartbeats 4000000 in
set_option maxRecDepth 100000 in
theorem c_L_take_no (l : Launch) (dD : va_G) (cI cR cS : ClassId) (lo : Nat) (hfl : l.stackTraces = false) (sz : Nat) (hlo : lo ≤ sz) (x0 : Nat) (b ra sb hd ol : Nat → Nat) (σ : St) (hI : sI σ) (hX : xI σ hd ol) (hJ : xJ σ hd ol) (x : Int32) (hn : ¬ rg x 1 200) : Met l yL_take wsL_take ({ frames := 8, cells := 1, slots := 6, locals := 127 }) (ePc dD cI cR cS lo [.ref x0, .int x] (fun H => H.size = sz ∧ va_P dD vwCl (xW cI cR cS x0 b ra sb hd ol σ) H ∧ va_D (fun q => lo ≤ q) (xW cI cR cS x0 b ra sb hd ol σ))) (va_Qi (fun (r : Int32) (_ : Unit) => r = (-72)) (fun _ _ => True) (fun _ => False)) 1 6 (va_A (xW cI cR cS x0 b ra sb hd ol σ) sz) := by
  refine Met.ofWH (cc := cL_take) (maxL := 4) (ret := (some .int)) (by decide) rfl ?_
  intro p e_ s m args below meth c s₁ B hml hv
  obtain ⟨rfl, hE, hsz, hP, hD0⟩ := hv
  have hx := B.exec
  have hb := B.bytes
  have hr := B.returns
  have hts := atoms_spec (ws := wsL_take) B.pre
  have hown : s.vm.findClass RL = some m.cls := findClass_of_methodNamed B.named
  have hlocks := B.notSynchronized
  have hK := hE.1.1
  subst hsz
  have hD := hD0.self (sz := s.heap.size)
  have hS : va_S (va_A (xW cI cR cS x0 b ra sb hd ol σ) s.heap.size) s.heap s.heap [] := va_S.rf
  have hP : va_P dD vwCl (xW cI cR cS x0 b ra sb hd ol σ) s.heap := hP
  have hl := lv_entry ([.ref x0, .int x]) (n := 4) (Nat.le_of_ble_eq_true rfl)
  rw [lg_entry_eq]
  generalize (lg_sl ([.ref x0, .int x]) ++ List.replicate (4 - (lg_sl ([.ref x0, .int x])).length) Slot.unset).toArray = ls at hl ⊢
  have hl : lv_has ls 4 [(0, .ref x0), (1, .int x)] := hl
  refine lv_aload_n hx hb dL_take_0 rfl (lv_at hl 0 rfl) ?_
  refine lv_iload_n hx hb dL_take_1 rfl (lv_at hl 1 rfl) ?_
  have htab : c.exceptionTable.toList = tableOf [(0, 6, 9, 14)] := vx_table (x := yL_take) B (hts _ List.mem_cons_self)
  refine nx_callw (vx_runV (As := [.int x]) (rest := []) ⟨hx, hb, hml, hown, hts⟩ (c_X2_take l dD cI cR cS lo hfl s.heap.size hlo x0 b ra sb hd ol σ hI x) (cwV 1 hts gL_take_X2_take rfl rfl rfl (by decide +kernel) ⟨Nat.le_of_ble_eq_true rfl, Nat.le_of_ble_eq_true rfl⟩) (ePreV hE va_S.rf hP (k := 0) rfl rfl ⟨rfl, hP, hD0⟩) rfl rfl hl.1 rfl (lv_room (Nat.le_of_ble_eq_true rfl)) dL_take_2 ⟨Nat.le_of_ble_eq_true rfl, Nat.le_of_ble_eq_true rfl⟩) hS (fun q _ h => h) (fun q h => h) (fun E ce q9 H1 locs hX9 hz9 hk9 hS hc9 hv9 hf9 => ?_) (fun r_ u_ t_ H1 locs ht_ hvm_ hw_ hB_ hz_ hk_ hS => ?_)
  · obtain ⟨rfl, hX9⟩ := hX9
    refine vx_catch (name := nIAE) hown [] ⟨0, 6, 9, 14⟩ [] htab (fun z hz => absurd hz List.not_mem_nil) (by decide) (by decide) (hts (.classLink RL 14 nIAE) (by decide +kernel)) (va_Nw.use rfl (hE.1.2.2.2.2.2.2.2.1 (.castable nIAE nIAE) (by decide +kernel))) hc9 hv9 hf9 ?_
    refine lv_astore_n (lv' := [(3, .ref q9), (0, .ref x0), (1, .int x)]) hx hb dL_take_9 rfl hl (by decide) rfl (fun ls hl => ?_)
    refine lv_bipush (v := (-72)) hx hb dL_take_10 (by decide +kernel) ?_
    exact W.iret (v := ((-72))) hx hb hr (fun u9 hu9 hW => ⟨⟨((-72)), (), rfl, rfl, trivial⟩, by rw [hu9]; exact hz9, fun q hq _ => by rw [hu9]; exact hk9 q hq⟩) hS.2.2 dL_take_12
  · exact absurd hw_.1 hn

set_option maxHeartbeats 4000000 in
set_option maxRecDepth 100000 in
theorem c_L_serve_no (l : Launch) (dD : va_G) (cI cR cS : ClassId) (lo : Nat) (hfl : l.stackTraces = false) (sz : Nat) (hlo : lo ≤ sz) (x0 : Nat) (b ra sb hd ol : Nat → Nat) (σ : St) (hI : sI σ) (hX : xI σ hd ol) (hJ : xJ σ hd ol) (f e : Int32) (hn : ¬ okP f e) : Met l yL_serve wsL_serve ({ frames := 9, cells := 3, slots := 18, locals := 148 }) (ePc dD cI cR cS lo [.ref x0, .int f, .int e] (fun H => H.size = sz ∧ va_P dD vwCl (xW cI cR cS x0 b ra sb hd ol σ) H ∧ va_D (fun q => lo ≤ q) (xW cI cR cS x0 b ra sb hd ol σ))) (va_Qi (fun (r : Int32) (_ : Unit) => r = (-72)) (fun _ _ => True) (fun _ => False)) 3 18 (va_A (xW cI cR cS x0 b ra sb hd ol σ) sz) := by
  refine Met.ofWH (cc := cL_serve) (maxL := 5) (ret := (some .int)) (by decide) rfl ?_
  intro p e_ s m args below meth c s₁ B hml hv
  obtain ⟨rfl, hE, hsz, hP, hD0⟩ := hv
  have hx := B.exec
  have hb := B.bytes
  have hr := B.returns
  have hts := atoms_spec (ws := wsL_serve) B.pre
  have hown : s.vm.findClass RL = some m.cls := findClass_of_methodNamed B.named
  have hlocks := B.notSynchronized
  have hK := hE.1.1
  subst hsz
  have hD := hD0.self (sz := s.heap.size)
  have hS : va_S (va_A (xW cI cR cS x0 b ra sb hd ol σ) s.heap.size) s.heap s.heap [] := va_S.rf
  have hP : va_P dD vwCl (xW cI cR cS x0 b ra sb hd ol σ) s.heap := hP
  have hl := lv_entry ([.ref x0, .int f, .int e]) (n := 5) (Nat.le_of_ble_eq_true rfl)
  rw [lg_entry_eq]
  generalize (lg_sl ([.ref x0, .int f, .int e]) ++ List.replicate (5 - (lg_sl ([.ref x0, .int f, .int e])).length) Slot.unset).toArray = ls at hl ⊢
  have hl : lv_has ls 5 [(0, .ref x0), (1, .int f), (2, .int e)] := hl
  refine lv_aload_n hx hb dL_serve_0 rfl (lv_at hl 0 rfl) ?_
  refine lv_iload_n hx hb dL_serve_1 rfl (lv_at hl 1 rfl) ?_
  refine lv_iload_n hx hb dL_serve_2 rfl (lv_at hl 2 rfl) ?_
  have htab : c.exceptionTable.toList = tableOf [(0, 7, 10, 14)] := vx_table (x := yL_serve) B (hts _ List.mem_cons_self)
  refine nx_callw (vx_runV (As := [.int f, .int e]) (rest := []) ⟨hx, hb, hml, hown, hts⟩ (c_X2_serve l dD cI cR cS lo hfl s.heap.size hlo x0 b ra sb hd ol σ hI f e) (cwV 2 hts gL_serve_X2_serve rfl rfl rfl (by decide +kernel) ⟨Nat.le_of_ble_eq_true rfl, Nat.le_of_ble_eq_true rfl⟩) (ePreV hE va_S.rf hP (k := 0) rfl rfl ⟨rfl, hP, hD0⟩) rfl rfl hl.1 rfl (lv_room (Nat.le_of_ble_eq_true rfl)) dL_serve_3 ⟨Nat.le_of_ble_eq_true rfl, Nat.le_of_ble_eq_true rfl⟩) hS (fun q _ h => h) (fun q h => h) (fun E ce q9 H1 locs hX9 hz9 hk9 hS hc9 hv9 hf9 => ?_) (fun r_ u_ t_ H1 locs ht_ hvm_ hw_ hB_ hz_ hk_ hS => ?_)
  · rcases hX9 with ⟨rfl, hX9⟩ | ⟨rfl, hX9, hX8⟩
    · refine vx_catch (name := nIAE) hown [] ⟨0, 7, 10, 14⟩ [] htab (fun z hz => absurd hz List.not_mem_nil) (by decide) (by decide) (hts (.classLink RL 14 nIAE) (by decide +kernel)) (va_Nw.use rfl (hE.1.2.2.2.2.2.2.2.1 (.castable nIAE nIAE) (by decide +kernel))) hc9 hv9 hf9 ?_
      refine lv_astore (lv' := [(4, .ref q9), (0, .ref x0), (1, .int f), (2, .int e)]) hx hb dL_serve_10 hl (by decide) rfl (fun ls hl => ?_)
      refine lv_bipush (v := (-72)) hx hb dL_serve_12 (by decide +kernel) ?_
      exact W.iret (v := ((-72))) hx hb hr (fun u9 hu9 hW => ⟨⟨((-72)), (), rfl, rfl, trivial⟩, by rw [hu9]; exact hz9, fun q hq _ => by rw [hu9]; exact hk9 q hq⟩) hS.2.2 dL_serve_14
    · exact absurd hX9 hn
  · exact absurd hw_.1.1 hn

set_option maxHeartbeats 4000000 in
set_option maxRecDepth 100000 in
theorem c_L_pass_ok (l : Launch) (dD : va_G) (cI cR cS : ClassId) (lo : Nat) (hfl : l.stackTraces = false) (sz : Nat) (hlo : lo ≤ sz) (x0 : Nat) (b ra sb hd ol : Nat → Nat) (σ : St) (hI : sI σ) (hX : xI σ hd ol) (hJ : xJ σ hd ol) (t : Int32) (hy : rg t 1 10000 ∧ s_now σ + cl t ≤ 10000) : Met l yL_pass wsL_pass ({ frames := 8, cells := 2, slots := 12, locals := 125 }) (ePc dD cI cR cS lo [.ref x0, .int t] (fun H => H.size = sz ∧ va_P dD vwCl (xW cI cR cS x0 b ra sb hd ol σ) H ∧ va_D (fun q => lo ≤ q) (xW cI cR cS x0 b ra sb hd ol σ))) (va_Qi (fun (r : Int32) (u : ((Nat → Nat) × (Nat → Nat) × (Nat → Nat) × (Nat → Nat))) => r = nI (s_now σ + cl t) ∧ sI (g_pass σ (cl t)) ∧ xI (g_pass σ (cl t)) u.2.2.1 u.2.2.2 ∧ xJ (g_pass σ (cl t)) u.2.2.1 u.2.2.2) (fun u U9 => va_P dD vwCl (xW cI cR cS x0 b u.1 u.2.1 u.2.2.1 u.2.2.2 (g_pass σ (cl t))) U9.heap ∧ va_D (va_A (xW cI cR cS x0 b ra sb hd ol σ) sz) (xW cI cR cS x0 b u.1 u.2.1 u.2.2.1 u.2.2.2 (g_pass σ (cl t)))) (va_A (xW cI cR cS x0 b ra sb hd ol σ) sz)) 2 12 (va_A (xW cI cR cS x0 b ra sb hd ol σ) sz) := by
  refine Met.ofWH (cc := cL_pass) (maxL := 4) (ret := (some .int)) (by decide) rfl ?_
  intro p e_ s m args below meth c s₁ B hml hv
  obtain ⟨rfl, hE, hsz, hP, hD0⟩ := hv
  have hx := B.exec
  have hb := B.bytes
  have hr := B.returns
  have hts := atoms_spec (ws := wsL_pass) B.pre
  have hown : s.vm.findClass RL = some m.cls := findClass_of_methodNamed B.named
  have hlocks := B.notSynchronized
  have hK := hE.1.1
  subst hsz
  have hD := hD0.self (sz := s.heap.size)
  have hS : va_S (va_A (xW cI cR cS x0 b ra sb hd ol σ) s.heap.size) s.heap s.heap [] := va_S.rf
  have hP : va_P dD vwCl (xW cI cR cS x0 b ra sb hd ol σ) s.heap := hP
  have hl := lv_entry ([.ref x0, .int t]) (n := 4) (Nat.le_of_ble_eq_true rfl)
  rw [lg_entry_eq]
  generalize (lg_sl ([.ref x0, .int t]) ++ List.replicate (4 - (lg_sl ([.ref x0, .int t])).length) Slot.unset).toArray = ls at hl ⊢
  have hl : lv_has ls 4 [(0, .ref x0), (1, .int t)] := hl
  refine lv_aload_n hx hb dL_pass_0 rfl (lv_at hl 0 rfl) ?_
  refine lv_iload_n hx hb dL_pass_1 rfl (lv_at hl 1 rfl) ?_
  have htab : c.exceptionTable.toList = tableOf [(0, 6, 9, 14), (0, 6, 13, 20)] := vx_table (x := yL_pass) B (hts _ List.mem_cons_self)
  refine nx_callw (vx_runV (As := [.int t]) (rest := []) ⟨hx, hb, hml, hown, hts⟩ (c_X2_pass l dD cI cR cS lo hfl s.heap.size hlo x0 b ra sb hd ol σ hI t) (cwV 1 hts gL_pass_X2_pass rfl rfl rfl (by decide +kernel) ⟨Nat.le_of_ble_eq_true rfl, Nat.le_of_ble_eq_true rfl⟩) (ePreV hE va_S.rf hP (k := 0) rfl rfl ⟨rfl, hP, hD0⟩) rfl rfl hl.1 rfl (lv_room (Nat.le_of_ble_eq_true rfl)) dL_pass_2 ⟨Nat.le_of_ble_eq_true rfl, Nat.le_of_ble_eq_true rfl⟩) hS (fun q _ h => h) (fun q h => h) (fun E ce q9 H1 locs hX9 hz9 hk9 hS hc9 hv9 hf9 => ?_) (fun r_ u_ t_ H1 locs ht_ hvm_ hw_ hB_ hz_ hk_ hS => ?_)
  · exact hX9.elim (fun h => absurd hy.1 h.2) (fun h => absurd hy.2 h.2.2)
  · obtain ⟨⟨ho1, ho2⟩, rfl, rfl⟩ := hw_
    have hP : va_P dD vwCl (xW cI cR cS x0 b ra sb hd ol (g_pass σ (cl t))) H1 := by rw [← ht_]; exact hB_
    have hD : va_D (va_A (xW cI cR cS x0 b ra sb hd ol σ) s.heap.size) (xW cI cR cS x0 b ra sb hd ol (g_pass σ (cl t))) := xD_to hD rfl rfl
    refine lv_istore_n (lv' := [(2, .int (nI (s_now σ + cl t))), (0, .ref x0), (1, .int t)]) hx hb dL_pass_5 rfl hl (by decide) rfl (fun ls hl => ?_)
    refine lv_goto (tgt := 17) hx hb dL_pass_6 (by decide) ?_
    refine lv_iload_n hx hb dL_pass_17 rfl (lv_at hl 0 rfl) ?_
    exact W.iret (v := (nI (s_now σ + cl t))) hx hb hr (fun u9 hu9 hW => ⟨⟨(nI (s_now σ + cl t)), (ra, sb, hd, ol), rfl, ⟨rfl, sI_pass hI ho2, xI_same (σ := σ) rfl rfl rfl hX, xJ_same (σ := σ) rfl rfl hJ⟩, by have h9 := hP; rw [← hu9] at h9; exact ⟨h9, hD⟩⟩, hS.F hu9⟩) hS.2.2 dL_pass_18

set_option maxHeartbeats 4000000 in
set_option maxRecDepth 100000 in
theorem c_L_setLifetime_ok (l : Launch) (dD : va_G) (cI cR cS : ClassId) (lo : Nat) (hfl : l.stackTraces = false) (sz : Nat) (hlo : lo ≤ sz) (x0 : Nat) (b ra sb hd ol : Nat → Nat) (σ : St) (hI : sI σ) (hX : xI σ hd ol) (hJ : xJ σ hd ol) (f t : Int32) (hy : rg f 0 5 ∧ rg t 0 10000) : Met l yL_setLifetime wsL_setLifetime ({ frames := 8, cells := 2, slots := 12, locals := 127 }) (ePc dD cI cR cS lo [.ref x0, .int f, .int t] (fun H => H.size = sz ∧ va_P dD vwCl (xW cI cR cS x0 b ra sb hd ol σ) H ∧ va_D (fun q => lo ≤ q) (xW cI cR cS x0 b ra sb hd ol σ))) (va_Qi (fun (r : Int32) (u : ((Nat → Nat) × (Nat → Nat) × (Nat → Nat) × (Nat → Nat))) => r = nI (s_lt σ (cl f)) ∧ sI (g_setL σ (cl f) (cl t)) ∧ xI (g_setL σ (cl f) (cl t)) u.2.2.1 u.2.2.2 ∧ xJ (g_setL σ (cl f) (cl t)) u.2.2.1 u.2.2.2) (fun u U9 => va_P dD vwCl (xW cI cR cS x0 b u.1 u.2.1 u.2.2.1 u.2.2.2 (g_setL σ (cl f) (cl t))) U9.heap ∧ va_D (va_A (xW cI cR cS x0 b ra sb hd ol σ) sz) (xW cI cR cS x0 b u.1 u.2.1 u.2.2.1 u.2.2.2 (g_setL σ (cl f) (cl t)))) (va_A (xW cI cR cS x0 b ra sb hd ol σ) sz)) 2 12 (va_A (xW cI cR cS x0 b ra sb hd ol σ) sz) := by
  refine Met.ofWH (cc := cL_setLifetime) (maxL := 5) (ret := (some .int)) (by decide) rfl ?_
  intro p e_ s m args below meth c s₁ B hml hv
  obtain ⟨rfl, hE, hsz, hP, hD0⟩ := hv
  have hx := B.exec
  have hb := B.bytes
  have hr := B.returns
  have hts := atoms_spec (ws := wsL_setLifetime) B.pre
  have hown : s.vm.findClass RL = some m.cls := findClass_of_methodNamed B.named
  have hlocks := B.notSynchronized
  have hK := hE.1.1
  subst hsz
  have hD := hD0.self (sz := s.heap.size)
  have hS : va_S (va_A (xW cI cR cS x0 b ra sb hd ol σ) s.heap.size) s.heap s.heap [] := va_S.rf
  have hP : va_P dD vwCl (xW cI cR cS x0 b ra sb hd ol σ) s.heap := hP
  have hl := lv_entry ([.ref x0, .int f, .int t]) (n := 5) (Nat.le_of_ble_eq_true rfl)
  rw [lg_entry_eq]
  generalize (lg_sl ([.ref x0, .int f, .int t]) ++ List.replicate (5 - (lg_sl ([.ref x0, .int f, .int t])).length) Slot.unset).toArray = ls at hl ⊢
  have hl : lv_has ls 5 [(0, .ref x0), (1, .int f), (2, .int t)] := hl
  refine lv_aload_n hx hb dL_setLifetime_0 rfl (lv_at hl 0 rfl) ?_
  refine lv_iload_n hx hb dL_setLifetime_1 rfl (lv_at hl 1 rfl) ?_
  refine lv_iload_n hx hb dL_setLifetime_2 rfl (lv_at hl 2 rfl) ?_
  have htab : c.exceptionTable.toList = tableOf [(0, 7, 10, 14)] := vx_table (x := yL_setLifetime) B (hts _ List.mem_cons_self)
  refine nx_callw (vx_runV (As := [.int f, .int t]) (rest := []) ⟨hx, hb, hml, hown, hts⟩ (c_X2_setLifetime l dD cI cR cS lo hfl s.heap.size hlo x0 b ra sb hd ol σ hI f t) (cwV 2 hts gL_setLifetime_X2_setLifetime rfl rfl rfl (by decide +kernel) ⟨Nat.le_of_ble_eq_true rfl, Nat.le_of_ble_eq_true rfl⟩) (ePreV hE va_S.rf hP (k := 0) rfl rfl ⟨rfl, hP, hD0⟩) rfl rfl hl.1 rfl (lv_room (Nat.le_of_ble_eq_true rfl)) dL_setLifetime_3 ⟨Nat.le_of_ble_eq_true rfl, Nat.le_of_ble_eq_true rfl⟩) hS (fun q _ h => h) (fun q h => h) (fun E ce q9 H1 locs hX9 hz9 hk9 hS hc9 hv9 hf9 => ?_) (fun r_ u_ t_ H1 locs ht_ hvm_ hw_ hB_ hz_ hk_ hS => ?_)
  · exact absurd hy hX9.2
  · obtain ⟨ho1, rfl, rfl⟩ := hw_
    have hP : va_P dD vwCl (xW cI cR cS x0 b ra sb hd ol (g_setL σ (cl f) (cl t))) H1 := by rw [← ht_]; exact hB_
    have hD : va_D (va_A (xW cI cR cS x0 b ra sb hd ol σ) s.heap.size) (xW cI cR cS x0 b ra sb hd ol (g_setL σ (cl f) (cl t))) := xD_to hD rfl rfl
    refine lv_istore_n (lv' := [(3, .int (nI (s_lt σ (cl f)))), (0, .ref x0), (1, .int f), (2, .int t)]) hx hb dL_setLifetime_6 rfl hl (by decide) rfl (fun ls hl => ?_)
    refine lv_goto (tgt := 15) hx hb dL_setLifetime_7 (by decide) ?_
    refine lv_iload_n hx hb dL_setLifetime_15 rfl (lv_at hl 0 rfl) ?_
    exact W.iret (v := (nI (s_lt σ (cl f)))) hx hb hr (fun u9 hu9 hW => ⟨⟨(nI (s_lt σ (cl f))), (ra, sb, hd, ol), rfl, ⟨rfl, sI_setL hI (rg_cl (by decide) (by decide) ho1.2).2, xI_same (σ := σ) rfl rfl rfl hX, xJ_same (σ := σ) rfl rfl hJ⟩, by have h9 := hP; rw [← hu9] at h9; exact ⟨h9, hD⟩⟩, hS.F hu9⟩) hS.2.2 dL_setLifetime_16

set_option maxHeartbeats 4000000 in
set_option maxRecDepth 100000 in
theorem c_L_take_ok (l : Launch) (dD : va_G) (cI cR cS : ClassId) (lo : Nat) (hfl : l.stackTraces = false) (sz : Nat) (hlo : lo ≤ sz) (x0 : Nat) (b ra sb hd ol : Nat → Nat) (σ : St) (hI : sI σ) (hX : xI σ hd ol) (hJ : xJ σ hd ol) (x : Int32) (hy : rg x 1 200) : Met l yL_take wsL_take ({ frames := 8, cells := 1, slots := 6, locals := 127 }) (ePc dD cI cR cS lo [.ref x0, .int x] (fun H => H.size = sz ∧ va_P dD vwCl (xW cI cR cS x0 b ra sb hd ol σ) H ∧ va_D (fun q => lo ≤ q) (xW cI cR cS x0 b ra sb hd ol σ))) (va_Qi (fun (r : Int32) (u : ((Nat → Nat) × (Nat → Nat) × (Nat → Nat) × (Nat → Nat))) => r = nI (g_m σ (cl x)) ∧ sI (q_take σ (g_m σ (cl x))) ∧ xI (q_take σ (g_m σ (cl x))) u.2.2.1 u.2.2.2 ∧ xJ (q_take σ (g_m σ (cl x))) u.2.2.1 u.2.2.2) (fun u U9 => va_P dD vwCl (xW cI cR cS x0 b u.1 u.2.1 u.2.2.1 u.2.2.2 (q_take σ (g_m σ (cl x)))) U9.heap ∧ va_D (va_A (xW cI cR cS x0 b ra sb hd ol σ) sz) (xW cI cR cS x0 b u.1 u.2.1 u.2.2.1 u.2.2.2 (q_take σ (g_m σ (cl x))))) (va_A (xW cI cR cS x0 b ra sb hd ol σ) sz)) 1 6 (va_A (xW cI cR cS x0 b ra sb hd ol σ) sz) := by
  refine Met.ofWH (cc := cL_take) (maxL := 4) (ret := (some .int)) (by decide) rfl ?_
  intro p e_ s m args below meth c s₁ B hml hv
  obtain ⟨rfl, hE, hsz, hP, hD0⟩ := hv
  have hx := B.exec
  have hb := B.bytes
  have hr := B.returns
  have hts := atoms_spec (ws := wsL_take) B.pre
  have hown : s.vm.findClass RL = some m.cls := findClass_of_methodNamed B.named
  have hlocks := B.notSynchronized
  have hK := hE.1.1
  subst hsz
  have hD := hD0.self (sz := s.heap.size)
  have hS : va_S (va_A (xW cI cR cS x0 b ra sb hd ol σ) s.heap.size) s.heap s.heap [] := va_S.rf
  have hP : va_P dD vwCl (xW cI cR cS x0 b ra sb hd ol σ) s.heap := hP
  have hl := lv_entry ([.ref x0, .int x]) (n := 4) (Nat.le_of_ble_eq_true rfl)
  rw [lg_entry_eq]
  generalize (lg_sl ([.ref x0, .int x]) ++ List.replicate (4 - (lg_sl ([.ref x0, .int x])).length) Slot.unset).toArray = ls at hl ⊢
  have hl : lv_has ls 4 [(0, .ref x0), (1, .int x)] := hl
  refine lv_aload_n hx hb dL_take_0 rfl (lv_at hl 0 rfl) ?_
  refine lv_iload_n hx hb dL_take_1 rfl (lv_at hl 1 rfl) ?_
  have htab : c.exceptionTable.toList = tableOf [(0, 6, 9, 14)] := vx_table (x := yL_take) B (hts _ List.mem_cons_self)
  refine nx_callw (vx_runV (As := [.int x]) (rest := []) ⟨hx, hb, hml, hown, hts⟩ (c_X2_take l dD cI cR cS lo hfl s.heap.size hlo x0 b ra sb hd ol σ hI x) (cwV 1 hts gL_take_X2_take rfl rfl rfl (by decide +kernel) ⟨Nat.le_of_ble_eq_true rfl, Nat.le_of_ble_eq_true rfl⟩) (ePreV hE va_S.rf hP (k := 0) rfl rfl ⟨rfl, hP, hD0⟩) rfl rfl hl.1 rfl (lv_room (Nat.le_of_ble_eq_true rfl)) dL_take_2 ⟨Nat.le_of_ble_eq_true rfl, Nat.le_of_ble_eq_true rfl⟩) hS (fun q _ h => h) (fun q h => h) (fun E ce q9 H1 locs hX9 hz9 hk9 hS hc9 hv9 hf9 => ?_) (fun r_ u_ t_ H1 locs ht_ hvm_ hw_ hB_ hz_ hk_ hS => ?_)
  · exact absurd hy hX9.2
  · obtain ⟨ho1, rfl, rfl⟩ := hw_
    have hP : va_P dD vwCl (xW cI cR cS x0 b ra sb hd ol (q_take σ (g_m σ (cl x)))) H1 := by rw [← ht_]; exact hB_
    have hD : va_D (va_A (xW cI cR cS x0 b ra sb hd ol σ) s.heap.size) (xW cI cR cS x0 b ra sb hd ol (q_take σ (g_m σ (cl x)))) := xD_to hD (qt_n σ _) (qt_kk σ _)
    refine lv_istore_n (lv' := [(2, .int (nI (g_m σ (cl x)))), (0, .ref x0), (1, .int x)]) hx hb dL_take_5 rfl hl (by decide) rfl (fun ls hl => ?_)
    refine lv_goto (tgt := 13) hx hb dL_take_6 (by decide) ?_
    refine lv_iload_n hx hb dL_take_13 rfl (lv_at hl 0 rfl) ?_
    exact W.iret (v := (nI (g_m σ (cl x)))) hx hb hr (fun u9 hu9 hW => ⟨⟨(nI (g_m σ (cl x))), (ra, sb, hd, ol), rfl, ⟨rfl, (qt_all hI hJ _ (by unfold g_m; omega)).1, xI_same (qt_n σ _) (qt_pr σ _) (qt_ev σ _) hX, (qt_all hI hJ _ (by unfold g_m; omega)).2⟩, by have h9 := hP; rw [← hu9] at h9; exact ⟨h9, hD⟩⟩, hS.F hu9⟩) hS.2.2 dL_take_14

set_option maxHeartbeats 4000000 in
set_option maxRecDepth 100000 in
theorem c_L_arrive_ok (l : Launch) (dD : va_G) (cI cR cS : ClassId) (lo : Nat) (hfl : l.stackTraces = false) (sz : Nat) (hlo : lo ≤ sz) (x0 : Nat) (b ra sb hd ol : Nat → Nat) (σ : St) (hI : sI σ) (hX : xI σ hd ol) (hJ : xJ σ hd ol) (f e v y : Int32) (hy : (okP f e ∧ rg v 0 (s_now σ) ∧ rg y 0 100000) ∧ s_n σ < 200) : Met l yL_arrive wsL_arrive ({ frames := 9, cells := 5, slots := 31, locals := 150 }) (ePc dD cI cR cS lo [.ref x0, .int f, .int e, .int v, .int y] (fun H => H.size = sz ∧ va_P dD vwCl (xW cI cR cS x0 b ra sb hd ol σ) H ∧ va_D (fun q => lo ≤ q) (xW cI cR cS x0 b ra sb hd ol σ))) (va_Qi (fun (r : Int32) (u : ((Nat → Nat) × (Nat → Nat) × (Nat → Nat) × (Nat → Nat))) => r = nI (s_n σ) ∧ sI (g_arrive σ (plN f e) (cl v) (cl y)) ∧ xI (g_arrive σ (plN f e) (cl v) (cl y)) u.2.2.1 u.2.2.2 ∧ xJ (g_arrive σ (plN f e) (cl v) (cl y)) u.2.2.1 u.2.2.2) (fun u U9 => va_P dD vwCl (xW cI cR cS x0 b u.1 u.2.1 u.2.2.1 u.2.2.2 (g_arrive σ (plN f e) (cl v) (cl y))) U9.heap ∧ va_D (va_A (xW cI cR cS x0 b ra sb hd ol σ) sz) (xW cI cR cS x0 b u.1 u.2.1 u.2.2.1 u.2.2.2 (g_arrive σ (plN f e) (cl v) (cl y)))) (va_A (xW cI cR cS x0 b ra sb hd ol σ) sz)) 5 31 (va_A (xW cI cR cS x0 b ra sb hd ol σ) sz) := by
  refine Met.ofWH (cc := cL_arrive) (maxL := 7) (ret := (some .int)) (by decide) rfl ?_
  intro p e_ s m args below meth c s₁ B hml hv
  obtain ⟨rfl, hE, hsz, hP, hD0⟩ := hv
  have hx := B.exec
  have hb := B.bytes
  have hr := B.returns
  have hts := atoms_spec (ws := wsL_arrive) B.pre
  have hown : s.vm.findClass RL = some m.cls := findClass_of_methodNamed B.named
  have hlocks := B.notSynchronized
  have hK := hE.1.1
  subst hsz
  have hD := hD0.self (sz := s.heap.size)
  have hS : va_S (va_A (xW cI cR cS x0 b ra sb hd ol σ) s.heap.size) s.heap s.heap [] := va_S.rf
  have hP : va_P dD vwCl (xW cI cR cS x0 b ra sb hd ol σ) s.heap := hP
  have hl := lv_entry ([.ref x0, .int f, .int e, .int v, .int y]) (n := 7) (Nat.le_of_ble_eq_true rfl)
  rw [lg_entry_eq]
  generalize (lg_sl ([.ref x0, .int f, .int e, .int v, .int y]) ++ List.replicate (7 - (lg_sl ([.ref x0, .int f, .int e, .int v, .int y])).length) Slot.unset).toArray = ls at hl ⊢
  have hl : lv_has ls 7 [(0, .ref x0), (1, .int f), (2, .int e), (3, .int v), (4, .int y)] := hl
  refine lv_aload_n hx hb dL_arrive_0 rfl (lv_at hl 0 rfl) ?_
  refine lv_iload_n hx hb dL_arrive_1 rfl (lv_at hl 1 rfl) ?_
  refine lv_iload_n hx hb dL_arrive_2 rfl (lv_at hl 2 rfl) ?_
  refine lv_iload_n hx hb dL_arrive_3 rfl (lv_at hl 3 rfl) ?_
  refine lv_iload hx hb dL_arrive_4 (lv_at hl 4 rfl) ?_
  have htab : c.exceptionTable.toList = tableOf [(0, 11, 14, 14)] := vx_table (x := yL_arrive) B (hts _ List.mem_cons_self)
  refine nx_callw (vx_runV (As := [.int f, .int e, .int v, .int y]) (rest := []) ⟨hx, hb, hml, hown, hts⟩ (c_X2_arrive l dD cI cR cS lo hfl s.heap.size hlo x0 b ra sb hd ol σ hI hX hJ f e v y) (cwV 4 hts gL_arrive_X2_arrive rfl rfl rfl (by decide +kernel) ⟨Nat.le_of_ble_eq_true rfl, Nat.le_of_ble_eq_true rfl⟩) (ePreV hE va_S.rf hP (k := 0) rfl rfl ⟨rfl, hP, hD0⟩) rfl rfl hl.1 rfl (lv_room (Nat.le_of_ble_eq_true rfl)) dL_arrive_6 ⟨Nat.le_of_ble_eq_true rfl, Nat.le_of_ble_eq_true rfl⟩) hS (fun q _ h => h) (fun q h => h) (fun E ce q9 H1 locs hX9 hz9 hk9 hS hc9 hv9 hf9 => ?_) (fun r_ u_ t_ H1 locs ht_ hvm_ hw_ hB_ hz_ hk_ hS => ?_)
  · exact hX9.elim (fun h => absurd hy.1 h.2) (fun h => absurd hy.2 h.2.2)
  · obtain ⟨σ', ra', hd', ol'⟩ := u_
    obtain ⟨⟨ho1, ho2⟩, h1_, h2_, h3_, rfl⟩ := hw_
    have h1_ : σ' = g_arrive σ (plN f e) (cl v) (cl y) := h1_
    subst h1_
    have hP : va_P dD vwCl (xW cI cR cS x0 b ra' sb hd' ol' (g_arrive σ (plN f e) (cl v) (cl y))) H1 := by rw [← ht_]; exact hB_.1
    have hD : va_D (va_A (xW cI cR cS x0 b ra sb hd ol σ) s.heap.size) (xW cI cR cS x0 b ra' sb hd' ol' (g_arrive σ (plN f e) (cl v) (cl y))) := hB_.2
    refine lv_istore (lv' := [(5, .int (nI (s_n σ))), (0, .ref x0), (1, .int f), (2, .int e), (3, .int v), (4, .int y)]) hx hb dL_arrive_9 hl (by decide) rfl (fun ls hl => ?_)
    refine lv_goto (tgt := 19) hx hb dL_arrive_11 (by decide) ?_
    refine lv_iload hx hb dL_arrive_19 (lv_at hl 0 rfl) ?_
    exact W.iret (v := (nI (s_n σ))) hx hb hr (fun u9 hu9 hW => ⟨⟨(nI (s_n σ)), (ra', sb, hd', ol'), rfl, ⟨rfl, sI_arrive hI ho2 (okP_pl ho1.1) (rg_cl (by decide) (by have := hI.1; omega) ho1.2.1).2 (rg_cl (by decide) (by decide) ho1.2.2).2, h2_, h3_⟩, by have h9 := hP; rw [← hu9] at h9; exact ⟨h9, hD⟩⟩, hS.F hu9⟩) hS.2.2 dL_arrive_21

set_option maxHeartbeats 4000000 in
set_option maxRecDepth 100000 in
theorem c_L_serve_ok (l : Launch) (dD : va_G) (cI cR cS : ClassId) (lo : Nat) (hfl : l.stackTraces = false) (sz : Nat) (hlo : lo ≤ sz) (x0 : Nat) (b ra sb hd ol : Nat → Nat) (σ : St) (hI : sI σ) (hX : xI σ hd ol) (hJ : xJ σ hd ol) (f e : Int32) (hy : okP f e ∧ s_k σ < 200) : Met l yL_serve wsL_serve ({ frames := 9, cells := 3, slots := 18, locals := 148 }) (ePc dD cI cR cS lo [.ref x0, .int f, .int e] (fun H => H.size = sz ∧ va_P dD vwCl (xW cI cR cS x0 b ra sb hd ol σ) H ∧ va_D (fun q => lo ≤ q) (xW cI cR cS x0 b ra sb hd ol σ))) (va_Qi (fun (r : Int32) (u : ((Nat → Nat) × (Nat → Nat) × (Nat → Nat) × (Nat → Nat))) => r = eN (q_fr σ (s_cp σ (plN f e)) (s_now σ)) ∧ sI (g_serve σ (plN f e)) ∧ xI (g_serve σ (plN f e)) u.2.2.1 u.2.2.2 ∧ xJ (g_serve σ (plN f e)) u.2.2.1 u.2.2.2) (fun u U9 => va_P dD vwCl (xW cI cR cS x0 b u.1 u.2.1 u.2.2.1 u.2.2.2 (g_serve σ (plN f e))) U9.heap ∧ va_D (va_A (xW cI cR cS x0 b ra sb hd ol σ) sz) (xW cI cR cS x0 b u.1 u.2.1 u.2.2.1 u.2.2.2 (g_serve σ (plN f e)))) (va_A (xW cI cR cS x0 b ra sb hd ol σ) sz)) 3 18 (va_A (xW cI cR cS x0 b ra sb hd ol σ) sz) := by
  refine Met.ofWH (cc := cL_serve) (maxL := 5) (ret := (some .int)) (by decide) rfl ?_
  intro p e_ s m args below meth c s₁ B hml hv
  obtain ⟨rfl, hE, hsz, hP, hD0⟩ := hv
  have hx := B.exec
  have hb := B.bytes
  have hr := B.returns
  have hts := atoms_spec (ws := wsL_serve) B.pre
  have hown : s.vm.findClass RL = some m.cls := findClass_of_methodNamed B.named
  have hlocks := B.notSynchronized
  have hK := hE.1.1
  subst hsz
  have hD := hD0.self (sz := s.heap.size)
  have hS : va_S (va_A (xW cI cR cS x0 b ra sb hd ol σ) s.heap.size) s.heap s.heap [] := va_S.rf
  have hP : va_P dD vwCl (xW cI cR cS x0 b ra sb hd ol σ) s.heap := hP
  have hl := lv_entry ([.ref x0, .int f, .int e]) (n := 5) (Nat.le_of_ble_eq_true rfl)
  rw [lg_entry_eq]
  generalize (lg_sl ([.ref x0, .int f, .int e]) ++ List.replicate (5 - (lg_sl ([.ref x0, .int f, .int e])).length) Slot.unset).toArray = ls at hl ⊢
  have hl : lv_has ls 5 [(0, .ref x0), (1, .int f), (2, .int e)] := hl
  refine lv_aload_n hx hb dL_serve_0 rfl (lv_at hl 0 rfl) ?_
  refine lv_iload_n hx hb dL_serve_1 rfl (lv_at hl 1 rfl) ?_
  refine lv_iload_n hx hb dL_serve_2 rfl (lv_at hl 2 rfl) ?_
  have htab : c.exceptionTable.toList = tableOf [(0, 7, 10, 14)] := vx_table (x := yL_serve) B (hts _ List.mem_cons_self)
  refine nx_callw (vx_runV (As := [.int f, .int e]) (rest := []) ⟨hx, hb, hml, hown, hts⟩ (c_X2_serve l dD cI cR cS lo hfl s.heap.size hlo x0 b ra sb hd ol σ hI f e) (cwV 2 hts gL_serve_X2_serve rfl rfl rfl (by decide +kernel) ⟨Nat.le_of_ble_eq_true rfl, Nat.le_of_ble_eq_true rfl⟩) (ePreV hE va_S.rf hP (k := 0) rfl rfl ⟨rfl, hP, hD0⟩) rfl rfl hl.1 rfl (lv_room (Nat.le_of_ble_eq_true rfl)) dL_serve_3 ⟨Nat.le_of_ble_eq_true rfl, Nat.le_of_ble_eq_true rfl⟩) hS (fun q _ h => h) (fun q h => h) (fun E ce q9 H1 locs hX9 hz9 hk9 hS hc9 hv9 hf9 => ?_) (fun r_ u_ t_ H1 locs ht_ hvm_ hw_ hB_ hz_ hk_ hS => ?_)
  · exact hX9.elim (fun h => absurd hy.1 h.2) (fun h => absurd hy.2 h.2.2)
  · obtain ⟨σ', sb'⟩ := u_
    obtain ⟨⟨ho1, ho2⟩, h1_, rfl⟩ := hw_
    have h1_ : σ' = g_serve σ (plN f e) := h1_
    subst h1_
    have hP : va_P dD vwCl (xW cI cR cS x0 b ra sb' hd ol (g_serve σ (plN f e))) H1 := by rw [← ht_]; exact hB_.1
    have hD : va_D (va_A (xW cI cR cS x0 b ra sb hd ol σ) s.heap.size) (xW cI cR cS x0 b ra sb' hd ol (g_serve σ (plN f e))) := hB_.2
    refine lv_istore_n (lv' := [(3, .int (eN (q_fr σ (s_cp σ (plN f e)) (s_now σ)))), (0, .ref x0), (1, .int f), (2, .int e)]) hx hb dL_serve_6 rfl hl (by decide) rfl (fun ls hl => ?_)
    refine lv_goto (tgt := 15) hx hb dL_serve_7 (by decide) ?_
    refine lv_iload_n hx hb dL_serve_15 rfl (lv_at hl 0 rfl) ?_
    exact W.iret (v := (eN (q_fr σ (s_cp σ (plN f e)) (s_now σ)))) hx hb hr (fun u9 hu9 hW => ⟨⟨(eN (q_fr σ (s_cp σ (plN f e)) (s_now σ))), (ra, sb', hd, ol), rfl, ⟨rfl, sI_serve hI ho2 (okP_pl ho1), xI_same (σ := σ) rfl rfl rfl hX, xJ_serve hJ⟩, by have h9 := hP; rw [← hu9] at h9; exact ⟨h9, hD⟩⟩, hS.F hu9⟩) hS.2.2 dL_serve_16
