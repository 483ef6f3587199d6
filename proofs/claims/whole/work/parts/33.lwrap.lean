/-! the law's own small methods (laid by wip/whole/gen/lwrap.py) -/
set_option maxHeartbeats 4000000 in
set_option maxRecDepth 100000 in
theorem c_L_value (l : Launch) (dD : va_G) (cI cR cS : ClassId) (lo : Nat) (cL : ClassId) (hfl : l.stackTraces = false) (sz : Nat) (hlo : lo ≤ sz) (x0 : Nat) (b : Nat → Nat) (o0 : Nat) (ra sb hd ol : Nat → Nat) (σ : St) (out : Nat → Int64) (hI : sI σ) (hX : xI σ hd ol) (hJ : xJ σ hd ol) (x : Int32) : Met l yL_value wsL_value ({ frames := 8, cells := 1, slots := 6, locals := 125 }) (lPc dD cI cR cS cL lo [.ref x0, .int x, .ref o0] (fun H => H.size = sz ∧ va_P dD vwCl (xoW cI cR cS cL x0 b o0 (σ, ra, sb, hd, ol, out)) H ∧ va_D (fun q => lo ≤ q) (xoW cI cR cS cL x0 b o0 (σ, ra, sb, hd, ol, out)))) (va_Qi (fun (r : Int32) (u : XU) => R3X (ri x (s_n σ)) (True) σ (σ) (nI (s_vl σ (cl x))) r u) (fun u t => va_P dD vwCl (xoW cI cR cS cL x0 b o0 u) t.heap ∧ va_D (va_A (xoW cI cR cS cL x0 b o0 (σ, ra, sb, hd, ol, out)) sz) (xoW cI cR cS cL x0 b o0 u)) (va_A (xoW cI cR cS cL x0 b o0 (σ, ra, sb, hd, ol, out)) sz)) 1 6 (va_A (xoW cI cR cS cL x0 b o0 (σ, ra, sb, hd, ol, out)) sz) := by
  refine Met.ofWH (cc := cL_value) (maxL := 4) (ret := (some .int)) (by decide) rfl ?_
  intro p e_ s m args below meth c s₁ B hml hv
  obtain ⟨rfl, hE, hKL, hsz, hP, hD0⟩ := hv
  have hx := B.exec
  have hb := B.bytes
  have hr := B.returns
  have hts := atoms_spec (ws := wsL_value) B.pre
  have hown : s.vm.findClass RL = some m.cls := findClass_of_methodNamed B.named
  have hlocks := B.notSynchronized
  have hK := hE.1.1
  subst hsz
  have hD := hD0.self (sz := s.heap.size)
  have hAlo : ∀ q, va_A (xoW cI cR cS cL x0 b o0 (σ, ra, sb, hd, ol, out)) s.heap.size q → lo ≤ q := eA_lo hD0 hlo
  generalize hAe : va_A (xoW cI cR cS cL x0 b o0 (σ, ra, sb, hd, ol, out)) s.heap.size = A at hD hAlo ⊢
  have hA : ∀ q : Nat, s.heap.size ≤ q → A q := fun q h => by rw [← hAe]; exact Or.inr h
  have hS : va_S A s.heap s.heap [] := va_S.rf
  have hP : va_P dD vwCl (xoW cI cR cS cL x0 b o0 (σ, ra, sb, hd, ol, out)) s.heap := hP
  have hl := lv_entry ([.ref x0, .int x, .ref o0]) (n := 4) (Nat.le_of_ble_eq_true rfl)
  rw [lg_entry_eq]
  generalize (lg_sl ([.ref x0, .int x, .ref o0]) ++ List.replicate (4 - (lg_sl ([.ref x0, .int x, .ref o0])).length) Slot.unset).toArray = ls at hl ⊢
  have hl : lv_has ls 4 [(0, .ref x0), (1, .int x), (2, .ref o0)] := hl
  
  refine lv_aload_n hx hb dL_value_0 rfl (lv_at hl 2 rfl) ?_
  refine lv_iconst (v := nI 0) hx hb dL_value_1 (by decide +kernel) ?_
  refine lv_aload_n hx hb dL_value_2 rfl (lv_at hl 0 rfl) ?_
  refine lv_iload_n hx hb dL_value_3 rfl (lv_at hl 1 rfl) ?_
  have htab : c.exceptionTable.toList = tableOf [(0, 9, 12, 28)] := vx_table (x := yL_value) B (hts _ List.mem_cons_self)
  refine nx_calli (vx_runV (As := [.int x]) (rest := [.int (nI 0), .ref o0]) ⟨hx, hb, hml, hown, hts⟩ (c_X2_value l dD cI cR cS lo hfl x0 b ra sb hd ol σ hI x) (cwV 1 hts gL_value_X2_value rfl rfl rfl (by decide +kernel) ⟨Nat.le_of_ble_eq_true rfl, Nat.le_of_ble_eq_true rfl⟩) (ePreV hE va_S.rf hP (k := 1) rfl rfl (vP_app2 (w1 := [(o0, .inl (cL, 1, .inr (.inl out)))]) hP)) rfl rfl hl.1 rfl (lv_room (Nat.le_of_ble_eq_true rfl)) dL_value_4 ⟨Nat.le_of_ble_eq_true rfl, Nat.le_of_ble_eq_true rfl⟩) (fun E ce q9 H1 hX9 hz9 hk9 hc9 hv9 hf9 => ?_) (fun r_ hr_ => ?_)
  · have hS : va_S A s.heap H1 [] := ⟨hz9, fun q hq _ => hk9 q hq, fun z hz => absurd hz List.not_mem_nil⟩
    have hP := vP_kept hP hk9
    obtain ⟨rfl, hX9⟩ := hX9
    refine vx_catch (name := nIOB) hown [] ⟨0, 9, 12, 28⟩ [] htab (fun z hz => absurd hz List.not_mem_nil) (by decide) (by decide) (hts (.classLink RL 28 nIOB) (by decide +kernel)) (va_Nw.use rfl (hE.1.2.2.2.2.2.2.2.1 (.castable nIOB nIOB) (by decide +kernel))) hc9 hv9 hf9 ?_
    refine lv_astore_n (lv' := [(3, .ref q9), (0, .ref x0), (1, .int x), (2, .ref o0)]) hx hb dL_value_12 rfl hl (by decide) rfl (fun ls hl => ?_)
    refine lv_iconst (v := nI 1) hx hb dL_value_13 (by decide +kernel) ?_
    exact W.iret (v := nI 1) hx hb hr (fun u9 hu9 hW => ⟨⟨nI 1, (σ, ra, sb, hd, ol, out), rfl, ⟨Or.inr (Or.inl ⟨hX9, rfl, rfl⟩), ⟨hI, hX, hJ⟩⟩, by have h9 := hP; rw [← hu9] at h9; exact ⟨h9, hAe ▸ hD⟩⟩, hS.F hu9⟩) hS.2.2 dL_value_14
  · obtain ⟨hok, rfl⟩ := hr_
    refine lv_i2l (v := ((nI (s_vl σ (cl x)))).toInt64) hx hb dL_value_7 rfl ?_
    refine va_last hx hb hKL hP hD hS 0 0 rfl rfl (vp_in_nI (by decide) (by decide)) dL_value_8 (fun H locs hP hD hS => ?_)
    have hP : va_P dD vwCl (xoW cI cR cS cL x0 b o0 (σ, ra, sb, hd, ol, vp_updL out (nI 0).toNatClampNeg ((nI (s_vl σ (cl x)))).toInt64)) H := hP
    have hD : va_D A (xoW cI cR cS cL x0 b o0 (σ, ra, sb, hd, ol, vp_updL out (nI 0).toNatClampNeg ((nI (s_vl σ (cl x)))).toInt64)) := hD
    refine lv_goto (tgt := 15) hx hb dL_value_9 (by decide) ?_
    refine lv_iconst (v := nI 0) hx hb dL_value_15 (by decide +kernel) ?_
    exact W.iret (v := nI 0) hx hb hr (fun u9 hu9 hW => ⟨⟨nI 0, (σ, ra, sb, hd, ol, vp_updL out (nI 0).toNatClampNeg ((nI (s_vl σ (cl x)))).toInt64), rfl, ⟨Or.inl ⟨hok, trivial, rfl, rfl, upL0 (f := out)⟩, ⟨hI, hX, hJ⟩⟩, by have h9 := hP; rw [← hu9] at h9; exact ⟨h9, hAe ▸ hD⟩⟩, hS.F hu9⟩) hS.2.2 dL_value_16

set_option maxHeartbeats 4000000 in
set_option maxRecDepth 100000 in
theorem c_L_late (l : Launch) (dD : va_G) (cI cR cS : ClassId) (lo : Nat) (cL : ClassId) (hfl : l.stackTraces = false) (sz : Nat) (hlo : lo ≤ sz) (x0 : Nat) (b : Nat → Nat) (o0 : Nat) (ra sb hd ol : Nat → Nat) (σ : St) (out : Nat → Int64) (hI : sI σ) (hX : xI σ hd ol) (hJ : xJ σ hd ol) (x : Int32) : Met l yL_late wsL_late ({ frames := 8, cells := 1, slots := 6, locals := 126 }) (lPc dD cI cR cS cL lo [.ref x0, .int x, .ref o0] (fun H => H.size = sz ∧ va_P dD vwCl (xoW cI cR cS cL x0 b o0 (σ, ra, sb, hd, ol, out)) H ∧ va_D (fun q => lo ≤ q) (xoW cI cR cS cL x0 b o0 (σ, ra, sb, hd, ol, out)))) (va_Qi (fun (r : Int32) (u : XU) => R3X (ri x (s_n σ)) (True) σ (σ) (nI (s_ar σ (cl x) - s_ev σ (cl x))) r u) (fun u t => va_P dD vwCl (xoW cI cR cS cL x0 b o0 u) t.heap ∧ va_D (va_A (xoW cI cR cS cL x0 b o0 (σ, ra, sb, hd, ol, out)) sz) (xoW cI cR cS cL x0 b o0 u)) (va_A (xoW cI cR cS cL x0 b o0 (σ, ra, sb, hd, ol, out)) sz)) 1 6 (va_A (xoW cI cR cS cL x0 b o0 (σ, ra, sb, hd, ol, out)) sz) := by
  refine Met.ofWH (cc := cL_late) (maxL := 4) (ret := (some .int)) (by decide) rfl ?_
  intro p e_ s m args below meth c s₁ B hml hv
  obtain ⟨rfl, hE, hKL, hsz, hP, hD0⟩ := hv
  have hx := B.exec
  have hb := B.bytes
  have hr := B.returns
  have hts := atoms_spec (ws := wsL_late) B.pre
  have hown : s.vm.findClass RL = some m.cls := findClass_of_methodNamed B.named
  have hlocks := B.notSynchronized
  have hK := hE.1.1
  subst hsz
  have hD := hD0.self (sz := s.heap.size)
  have hAlo : ∀ q, va_A (xoW cI cR cS cL x0 b o0 (σ, ra, sb, hd, ol, out)) s.heap.size q → lo ≤ q := eA_lo hD0 hlo
  generalize hAe : va_A (xoW cI cR cS cL x0 b o0 (σ, ra, sb, hd, ol, out)) s.heap.size = A at hD hAlo ⊢
  have hA : ∀ q : Nat, s.heap.size ≤ q → A q := fun q h => by rw [← hAe]; exact Or.inr h
  have hS : va_S A s.heap s.heap [] := va_S.rf
  have hP : va_P dD vwCl (xoW cI cR cS cL x0 b o0 (σ, ra, sb, hd, ol, out)) s.heap := hP
  have hl := lv_entry ([.ref x0, .int x, .ref o0]) (n := 4) (Nat.le_of_ble_eq_true rfl)
  rw [lg_entry_eq]
  generalize (lg_sl ([.ref x0, .int x, .ref o0]) ++ List.replicate (4 - (lg_sl ([.ref x0, .int x, .ref o0])).length) Slot.unset).toArray = ls at hl ⊢
  have hl : lv_has ls 4 [(0, .ref x0), (1, .int x), (2, .ref o0)] := hl
  
  refine lv_aload_n hx hb dL_late_0 rfl (lv_at hl 2 rfl) ?_
  refine lv_iconst (v := nI 0) hx hb dL_late_1 (by decide +kernel) ?_
  refine lv_aload_n hx hb dL_late_2 rfl (lv_at hl 0 rfl) ?_
  refine lv_iload_n hx hb dL_late_3 rfl (lv_at hl 1 rfl) ?_
  have htab : c.exceptionTable.toList = tableOf [(0, 9, 12, 28)] := vx_table (x := yL_late) B (hts _ List.mem_cons_self)
  refine nx_calli (vx_runV (As := [.int x]) (rest := [.int (nI 0), .ref o0]) ⟨hx, hb, hml, hown, hts⟩ (c_X2_late l dD cI cR cS lo hfl x0 b ra sb hd ol σ hI x) (cwV 1 hts gL_late_X2_late rfl rfl rfl (by decide +kernel) ⟨Nat.le_of_ble_eq_true rfl, Nat.le_of_ble_eq_true rfl⟩) (ePreV hE va_S.rf hP (k := 1) rfl rfl (vP_app2 (w1 := [(o0, .inl (cL, 1, .inr (.inl out)))]) hP)) rfl rfl hl.1 rfl (lv_room (Nat.le_of_ble_eq_true rfl)) dL_late_4 ⟨Nat.le_of_ble_eq_true rfl, Nat.le_of_ble_eq_true rfl⟩) (fun E ce q9 H1 hX9 hz9 hk9 hc9 hv9 hf9 => ?_) (fun r_ hr_ => ?_)
  · have hS : va_S A s.heap H1 [] := ⟨hz9, fun q hq _ => hk9 q hq, fun z hz => absurd hz List.not_mem_nil⟩
    have hP := vP_kept hP hk9
    obtain ⟨rfl, hX9⟩ := hX9
    refine vx_catch (name := nIOB) hown [] ⟨0, 9, 12, 28⟩ [] htab (fun z hz => absurd hz List.not_mem_nil) (by decide) (by decide) (hts (.classLink RL 28 nIOB) (by decide +kernel)) (va_Nw.use rfl (hE.1.2.2.2.2.2.2.2.1 (.castable nIOB nIOB) (by decide +kernel))) hc9 hv9 hf9 ?_
    refine lv_astore_n (lv' := [(3, .ref q9), (0, .ref x0), (1, .int x), (2, .ref o0)]) hx hb dL_late_12 rfl hl (by decide) rfl (fun ls hl => ?_)
    refine lv_iconst (v := nI 1) hx hb dL_late_13 (by decide +kernel) ?_
    exact W.iret (v := nI 1) hx hb hr (fun u9 hu9 hW => ⟨⟨nI 1, (σ, ra, sb, hd, ol, out), rfl, ⟨Or.inr (Or.inl ⟨hX9, rfl, rfl⟩), ⟨hI, hX, hJ⟩⟩, by have h9 := hP; rw [← hu9] at h9; exact ⟨h9, hAe ▸ hD⟩⟩, hS.F hu9⟩) hS.2.2 dL_late_14
  · obtain ⟨hok, rfl⟩ := hr_
    refine lv_i2l (v := ((nI (s_ar σ (cl x) - s_ev σ (cl x)))).toInt64) hx hb dL_late_7 rfl ?_
    refine va_last hx hb hKL hP hD hS 0 0 rfl rfl (vp_in_nI (by decide) (by decide)) dL_late_8 (fun H locs hP hD hS => ?_)
    have hP : va_P dD vwCl (xoW cI cR cS cL x0 b o0 (σ, ra, sb, hd, ol, vp_updL out (nI 0).toNatClampNeg ((nI (s_ar σ (cl x) - s_ev σ (cl x)))).toInt64)) H := hP
    have hD : va_D A (xoW cI cR cS cL x0 b o0 (σ, ra, sb, hd, ol, vp_updL out (nI 0).toNatClampNeg ((nI (s_ar σ (cl x) - s_ev σ (cl x)))).toInt64)) := hD
    refine lv_goto (tgt := 15) hx hb dL_late_9 (by decide) ?_
    refine lv_iconst (v := nI 0) hx hb dL_late_15 (by decide +kernel) ?_
    exact W.iret (v := nI 0) hx hb hr (fun u9 hu9 hW => ⟨⟨nI 0, (σ, ra, sb, hd, ol, vp_updL out (nI 0).toNatClampNeg ((nI (s_ar σ (cl x) - s_ev σ (cl x)))).toInt64), rfl, ⟨Or.inl ⟨hok, trivial, rfl, rfl, upL0 (f := out)⟩, ⟨hI, hX, hJ⟩⟩, by have h9 := hP; rw [← hu9] at h9; exact ⟨h9, hAe ▸ hD⟩⟩, hS.F hu9⟩) hS.2.2 dL_late_16

set_option maxHeartbeats 4000000 in
set_option maxRecDepth 100000 in
theorem c_L_join (l : Launch) (dD : va_G) (cI cR cS : ClassId) (lo : Nat) (cL : ClassId) (hfl : l.stackTraces = false) (sz : Nat) (hlo : lo ≤ sz) (x0 : Nat) (b : Nat → Nat) (o0 : Nat) (ra sb hd ol : Nat → Nat) (σ : St) (out : Nat → Int64) (hI : sI σ) (hX : xI σ hd ol) (hJ : xJ σ hd ol) (f e t k : Int32) : Met l yL_join wsL_join ({ frames := 9, cells := 4, slots := 24, locals := 149 }) (lPc dD cI cR cS cL lo [.ref x0, .int f, .int e, .int t, .int k, .ref o0] (fun H => H.size = sz ∧ va_P dD vwCl (xoW cI cR cS cL x0 b o0 (σ, ra, sb, hd, ol, out)) H ∧ va_D (fun q => lo ≤ q) (xoW cI cR cS cL x0 b o0 (σ, ra, sb, hd, ol, out)))) (va_Qi (fun (r : Int32) (u : XU) => R3X (okP f e ∧ rg t 0 10000 ∧ rg k 0 (s_now σ)) (True) σ (σ) (eN (q_join σ (plN f e) (cl t) (cl k))) r u) (fun u t => va_P dD vwCl (xoW cI cR cS cL x0 b o0 u) t.heap ∧ va_D (va_A (xoW cI cR cS cL x0 b o0 (σ, ra, sb, hd, ol, out)) sz) (xoW cI cR cS cL x0 b o0 u)) (va_A (xoW cI cR cS cL x0 b o0 (σ, ra, sb, hd, ol, out)) sz)) 4 24 (va_A (xoW cI cR cS cL x0 b o0 (σ, ra, sb, hd, ol, out)) sz) := by
  refine Met.ofWH (cc := cL_join) (maxL := 7) (ret := (some .int)) (by decide) rfl ?_
  intro p e_ s m args below meth c s₁ B hml hv
  obtain ⟨rfl, hE, hKL, hsz, hP, hD0⟩ := hv
  have hx := B.exec
  have hb := B.bytes
  have hr := B.returns
  have hts := atoms_spec (ws := wsL_join) B.pre
  have hown : s.vm.findClass RL = some m.cls := findClass_of_methodNamed B.named
  have hlocks := B.notSynchronized
  have hK := hE.1.1
  subst hsz
  have hD := hD0.self (sz := s.heap.size)
  have hAlo : ∀ q, va_A (xoW cI cR cS cL x0 b o0 (σ, ra, sb, hd, ol, out)) s.heap.size q → lo ≤ q := eA_lo hD0 hlo
  generalize hAe : va_A (xoW cI cR cS cL x0 b o0 (σ, ra, sb, hd, ol, out)) s.heap.size = A at hD hAlo ⊢
  have hA : ∀ q : Nat, s.heap.size ≤ q → A q := fun q h => by rw [← hAe]; exact Or.inr h
  have hS : va_S A s.heap s.heap [] := va_S.rf
  have hP : va_P dD vwCl (xoW cI cR cS cL x0 b o0 (σ, ra, sb, hd, ol, out)) s.heap := hP
  have hl := lv_entry ([.ref x0, .int f, .int e, .int t, .int k, .ref o0]) (n := 7) (Nat.le_of_ble_eq_true rfl)
  rw [lg_entry_eq]
  generalize (lg_sl ([.ref x0, .int f, .int e, .int t, .int k, .ref o0]) ++ List.replicate (7 - (lg_sl ([.ref x0, .int f, .int e, .int t, .int k, .ref o0])).length) Slot.unset).toArray = ls at hl ⊢
  have hl : lv_has ls 7 [(0, .ref x0), (1, .int f), (2, .int e), (3, .int t), (4, .int k), (5, .ref o0)] := hl
  
  refine lv_aload hx hb dL_join_0 (lv_at hl 5 rfl) ?_
  refine lv_iconst (v := nI 0) hx hb dL_join_2 (by decide +kernel) ?_
  refine lv_aload_n hx hb dL_join_3 rfl (lv_at hl 0 rfl) ?_
  refine lv_iload_n hx hb dL_join_4 rfl (lv_at hl 1 rfl) ?_
  refine lv_iload_n hx hb dL_join_5 rfl (lv_at hl 2 rfl) ?_
  refine lv_iload_n hx hb dL_join_6 rfl (lv_at hl 3 rfl) ?_
  refine lv_iload hx hb dL_join_7 (lv_at hl 4 rfl) ?_
  have htab : c.exceptionTable.toList = tableOf [(0, 14, 17, 13)] := vx_table (x := yL_join) B (hts _ List.mem_cons_self)
  refine nx_calli (vx_runV (As := [.int f, .int e, .int t, .int k]) (rest := [.int (nI 0), .ref o0]) ⟨hx, hb, hml, hown, hts⟩ (c_X2_join l dD cI cR cS lo hfl x0 b ra sb hd ol σ hI hX f e t k) (cwV 4 hts gL_join_X2_join rfl rfl rfl (by decide +kernel) ⟨Nat.le_of_ble_eq_true rfl, Nat.le_of_ble_eq_true rfl⟩) (ePreV hE va_S.rf hP (k := 1) rfl rfl (vP_app2 (w1 := [(o0, .inl (cL, 1, .inr (.inl out)))]) hP)) rfl rfl hl.1 rfl (lv_room (Nat.le_of_ble_eq_true rfl)) dL_join_9 ⟨Nat.le_of_ble_eq_true rfl, Nat.le_of_ble_eq_true rfl⟩) (fun E ce q9 H1 hX9 hz9 hk9 hc9 hv9 hf9 => ?_) (fun r_ hr_ => ?_)
  · have hS : va_S A s.heap H1 [] := ⟨hz9, fun q hq _ => hk9 q hq, fun z hz => absurd hz List.not_mem_nil⟩
    have hP := vP_kept hP hk9
    obtain ⟨rfl, hX9⟩ := hX9
    refine vx_catch (name := nIAE) hown [] ⟨0, 14, 17, 13⟩ [] htab (fun z hz => absurd hz List.not_mem_nil) (by decide) (by decide) (hts (.classLink RL 13 nIAE) (by decide +kernel)) (va_Nw.use rfl (hE.1.2.2.2.2.2.2.2.1 (.castable nIAE nIAE) (by decide +kernel))) hc9 hv9 hf9 ?_
    refine lv_astore (lv' := [(6, .ref q9), (0, .ref x0), (1, .int f), (2, .int e), (3, .int t), (4, .int k), (5, .ref o0)]) hx hb dL_join_17 hl (by decide) rfl (fun ls hl => ?_)
    refine lv_iconst (v := nI 1) hx hb dL_join_19 (by decide +kernel) ?_
    exact W.iret (v := nI 1) hx hb hr (fun u9 hu9 hW => ⟨⟨nI 1, (σ, ra, sb, hd, ol, out), rfl, ⟨Or.inr (Or.inl ⟨hX9, rfl, rfl⟩), ⟨hI, hX, hJ⟩⟩, by have h9 := hP; rw [← hu9] at h9; exact ⟨h9, hAe ▸ hD⟩⟩, hS.F hu9⟩) hS.2.2 dL_join_20
  · obtain ⟨hok, rfl⟩ := hr_
    refine lv_i2l (v := ((eN (q_join σ (plN f e) (cl t) (cl k)))).toInt64) hx hb dL_join_12 rfl ?_
    refine va_last hx hb hKL hP hD hS 0 0 rfl rfl (vp_in_nI (by decide) (by decide)) dL_join_13 (fun H locs hP hD hS => ?_)
    have hP : va_P dD vwCl (xoW cI cR cS cL x0 b o0 (σ, ra, sb, hd, ol, vp_updL out (nI 0).toNatClampNeg ((eN (q_join σ (plN f e) (cl t) (cl k)))).toInt64)) H := hP
    have hD : va_D A (xoW cI cR cS cL x0 b o0 (σ, ra, sb, hd, ol, vp_updL out (nI 0).toNatClampNeg ((eN (q_join σ (plN f e) (cl t) (cl k)))).toInt64)) := hD
    refine lv_goto (tgt := 21) hx hb dL_join_14 (by decide) ?_
    refine lv_iconst (v := nI 0) hx hb dL_join_21 (by decide +kernel) ?_
    exact W.iret (v := nI 0) hx hb hr (fun u9 hu9 hW => ⟨⟨nI 0, (σ, ra, sb, hd, ol, vp_updL out (nI 0).toNatClampNeg ((eN (q_join σ (plN f e) (cl t) (cl k)))).toInt64), rfl, ⟨Or.inl ⟨hok, trivial, rfl, rfl, upL0 (f := out)⟩, ⟨hI, hX, hJ⟩⟩, by have h9 := hP; rw [← hu9] at h9; exact ⟨h9, hAe ▸ hD⟩⟩, hS.F hu9⟩) hS.2.2 dL_join_22

set_option maxHeartbeats 4000000 in
set_option maxRecDepth 100000 in
theorem c_L_window (l : Launch) (dD : va_G) (cI cR cS : ClassId) (lo : Nat) (cL : ClassId) (hfl : l.stackTraces = false) (sz : Nat) (hlo : lo ≤ sz) (x0 : Nat) (b : Nat → Nat) (o0 : Nat) (ra sb hd ol : Nat → Nat) (σ : St) (out : Nat → Int64) (hI : sI σ) (hX : xI σ hd ol) (hJ : xJ σ hd ol) (f e x y : Int32) : Met l yL_window wsL_window ({ frames := 9, cells := 4, slots := 24, locals := 151 }) (lPc dD cI cR cS cL lo [.ref x0, .int f, .int e, .int x, .int y, .ref o0] (fun H => H.size = sz ∧ va_P dD vwCl (xoW cI cR cS cL x0 b o0 (σ, ra, sb, hd, ol, out)) H ∧ va_D (fun q => lo ≤ q) (xoW cI cR cS cL x0 b o0 (σ, ra, sb, hd, ol, out)))) (va_Qi (fun (r : Int32) (u : XU) => R3X (okP f e ∧ rg x 0 10000 ∧ rg y (cl x) 10000) (True) σ (σ) (nI (q_sum σ (plN f e) (cl x) (cl y) (s_n σ))) r u) (fun u t => va_P dD vwCl (xoW cI cR cS cL x0 b o0 u) t.heap ∧ va_D (va_A (xoW cI cR cS cL x0 b o0 (σ, ra, sb, hd, ol, out)) sz) (xoW cI cR cS cL x0 b o0 u)) (va_A (xoW cI cR cS cL x0 b o0 (σ, ra, sb, hd, ol, out)) sz)) 4 24 (va_A (xoW cI cR cS cL x0 b o0 (σ, ra, sb, hd, ol, out)) sz) := by
  refine Met.ofWH (cc := cL_window) (maxL := 7) (ret := (some .int)) (by decide) rfl ?_
  intro p e_ s m args below meth c s₁ B hml hv
  obtain ⟨rfl, hE, hKL, hsz, hP, hD0⟩ := hv
  have hx := B.exec
  have hb := B.bytes
  have hr := B.returns
  have hts := atoms_spec (ws := wsL_window) B.pre
  have hown : s.vm.findClass RL = some m.cls := findClass_of_methodNamed B.named
  have hlocks := B.notSynchronized
  have hK := hE.1.1
  subst hsz
  have hD := hD0.self (sz := s.heap.size)
  have hAlo : ∀ q, va_A (xoW cI cR cS cL x0 b o0 (σ, ra, sb, hd, ol, out)) s.heap.size q → lo ≤ q := eA_lo hD0 hlo
  generalize hAe : va_A (xoW cI cR cS cL x0 b o0 (σ, ra, sb, hd, ol, out)) s.heap.size = A at hD hAlo ⊢
  have hA : ∀ q : Nat, s.heap.size ≤ q → A q := fun q h => by rw [← hAe]; exact Or.inr h
  have hS : va_S A s.heap s.heap [] := va_S.rf
  have hP : va_P dD vwCl (xoW cI cR cS cL x0 b o0 (σ, ra, sb, hd, ol, out)) s.heap := hP
  have hl := lv_entry ([.ref x0, .int f, .int e, .int x, .int y, .ref o0]) (n := 7) (Nat.le_of_ble_eq_true rfl)
  rw [lg_entry_eq]
  generalize (lg_sl ([.ref x0, .int f, .int e, .int x, .int y, .ref o0]) ++ List.replicate (7 - (lg_sl ([.ref x0, .int f, .int e, .int x, .int y, .ref o0])).length) Slot.unset).toArray = ls at hl ⊢
  have hl : lv_has ls 7 [(0, .ref x0), (1, .int f), (2, .int e), (3, .int x), (4, .int y), (5, .ref o0)] := hl
  
  refine lv_aload hx hb dL_window_0 (lv_at hl 5 rfl) ?_
  refine lv_iconst (v := nI 0) hx hb dL_window_2 (by decide +kernel) ?_
  refine lv_aload_n hx hb dL_window_3 rfl (lv_at hl 0 rfl) ?_
  refine lv_iload_n hx hb dL_window_4 rfl (lv_at hl 1 rfl) ?_
  refine lv_iload_n hx hb dL_window_5 rfl (lv_at hl 2 rfl) ?_
  refine lv_iload_n hx hb dL_window_6 rfl (lv_at hl 3 rfl) ?_
  refine lv_iload hx hb dL_window_7 (lv_at hl 4 rfl) ?_
  have htab : c.exceptionTable.toList = tableOf [(0, 14, 17, 13)] := vx_table (x := yL_window) B (hts _ List.mem_cons_self)
  refine nx_calli (vx_runV (As := [.int f, .int e, .int x, .int y]) (rest := [.int (nI 0), .ref o0]) ⟨hx, hb, hml, hown, hts⟩ (c_X2_window l dD cI cR cS lo hfl x0 b ra sb hd ol σ hI hX f e x y) (cwV 4 hts gL_window_X2_window rfl rfl rfl (by decide +kernel) ⟨Nat.le_of_ble_eq_true rfl, Nat.le_of_ble_eq_true rfl⟩) (ePreV hE va_S.rf hP (k := 1) rfl rfl (vP_app2 (w1 := [(o0, .inl (cL, 1, .inr (.inl out)))]) hP)) rfl rfl hl.1 rfl (lv_room (Nat.le_of_ble_eq_true rfl)) dL_window_9 ⟨Nat.le_of_ble_eq_true rfl, Nat.le_of_ble_eq_true rfl⟩) (fun E ce q9 H1 hX9 hz9 hk9 hc9 hv9 hf9 => ?_) (fun r_ hr_ => ?_)
  · have hS : va_S A s.heap H1 [] := ⟨hz9, fun q hq _ => hk9 q hq, fun z hz => absurd hz List.not_mem_nil⟩
    have hP := vP_kept hP hk9
    obtain ⟨rfl, hX9⟩ := hX9
    refine vx_catch (name := nIAE) hown [] ⟨0, 14, 17, 13⟩ [] htab (fun z hz => absurd hz List.not_mem_nil) (by decide) (by decide) (hts (.classLink RL 13 nIAE) (by decide +kernel)) (va_Nw.use rfl (hE.1.2.2.2.2.2.2.2.1 (.castable nIAE nIAE) (by decide +kernel))) hc9 hv9 hf9 ?_
    refine lv_astore (lv' := [(6, .ref q9), (0, .ref x0), (1, .int f), (2, .int e), (3, .int x), (4, .int y), (5, .ref o0)]) hx hb dL_window_17 hl (by decide) rfl (fun ls hl => ?_)
    refine lv_iconst (v := nI 1) hx hb dL_window_19 (by decide +kernel) ?_
    exact W.iret (v := nI 1) hx hb hr (fun u9 hu9 hW => ⟨⟨nI 1, (σ, ra, sb, hd, ol, out), rfl, ⟨Or.inr (Or.inl ⟨hX9, rfl, rfl⟩), ⟨hI, hX, hJ⟩⟩, by have h9 := hP; rw [← hu9] at h9; exact ⟨h9, hAe ▸ hD⟩⟩, hS.F hu9⟩) hS.2.2 dL_window_20
  · obtain ⟨hok, rfl⟩ := hr_
    refine lv_i2l (v := ((nI (q_sum σ (plN f e) (cl x) (cl y) (s_n σ)))).toInt64) hx hb dL_window_12 rfl ?_
    refine va_last hx hb hKL hP hD hS 0 0 rfl rfl (vp_in_nI (by decide) (by decide)) dL_window_13 (fun H locs hP hD hS => ?_)
    have hP : va_P dD vwCl (xoW cI cR cS cL x0 b o0 (σ, ra, sb, hd, ol, vp_updL out (nI 0).toNatClampNeg ((nI (q_sum σ (plN f e) (cl x) (cl y) (s_n σ)))).toInt64)) H := hP
    have hD : va_D A (xoW cI cR cS cL x0 b o0 (σ, ra, sb, hd, ol, vp_updL out (nI 0).toNatClampNeg ((nI (q_sum σ (plN f e) (cl x) (cl y) (s_n σ)))).toInt64)) := hD
    refine lv_goto (tgt := 21) hx hb dL_window_14 (by decide) ?_
    refine lv_iconst (v := nI 0) hx hb dL_window_21 (by decide +kernel) ?_
    exact W.iret (v := nI 0) hx hb hr (fun u9 hu9 hW => ⟨⟨nI 0, (σ, ra, sb, hd, ol, vp_updL out (nI 0).toNatClampNeg ((nI (q_sum σ (plN f e) (cl x) (cl y) (s_n σ)))).toInt64), rfl, ⟨Or.inl ⟨hok, trivial, rfl, rfl, upL0 (f := out)⟩, ⟨hI, hX, hJ⟩⟩, by have h9 := hP; rw [← hu9] at h9; exact ⟨h9, hAe ▸ hD⟩⟩, hS.F hu9⟩) hS.2.2 dL_window_22

set_option maxHeartbeats 4000000 in
set_option maxRecDepth 100000 in
theorem c_L_greatestTile (l : Launch) (dD : va_G) (cI cR cS : ClassId) (lo : Nat) (cL : ClassId) (hfl : l.stackTraces = false) (sz : Nat) (hlo : lo ≤ sz) (x0 : Nat) (b : Nat → Nat) (o0 : Nat) (ra sb hd ol : Nat → Nat) (σ : St) (out : Nat → Int64) (hI : sI σ) (hX : xI σ hd ol) (hJ : xJ σ hd ol) (f e x : Int32) : Met l yL_greatestTile wsL_greatestTile ({ frames := 9, cells := 3, slots := 18, locals := 153 }) (lPc dD cI cR cS cL lo [.ref x0, .int f, .int e, .int x, .ref o0] (fun H => H.size = sz ∧ va_P dD vwCl (xoW cI cR cS cL x0 b o0 (σ, ra, sb, hd, ol, out)) H ∧ va_D (fun q => lo ≤ q) (xoW cI cR cS cL x0 b o0 (σ, ra, sb, hd, ol, out)))) (va_Qi (fun (r : Int32) (u : XU) => R3X (okP f e ∧ rg x 1 10000) (True) σ (σ) (nI (q_gt σ (plN f e) (cl x) (s_n σ))) r u) (fun u t => va_P dD vwCl (xoW cI cR cS cL x0 b o0 u) t.heap ∧ va_D (va_A (xoW cI cR cS cL x0 b o0 (σ, ra, sb, hd, ol, out)) sz) (xoW cI cR cS cL x0 b o0 u)) (va_A (xoW cI cR cS cL x0 b o0 (σ, ra, sb, hd, ol, out)) sz)) 3 18 (va_A (xoW cI cR cS cL x0 b o0 (σ, ra, sb, hd, ol, out)) sz) := by
  refine Met.ofWH (cc := cL_greatestTile) (maxL := 6) (ret := (some .int)) (by decide) rfl ?_
  intro p e_ s m args below meth c s₁ B hml hv
  obtain ⟨rfl, hE, hKL, hsz, hP, hD0⟩ := hv
  have hx := B.exec
  have hb := B.bytes
  have hr := B.returns
  have hts := atoms_spec (ws := wsL_greatestTile) B.pre
  have hown : s.vm.findClass RL = some m.cls := findClass_of_methodNamed B.named
  have hlocks := B.notSynchronized
  have hK := hE.1.1
  subst hsz
  have hD := hD0.self (sz := s.heap.size)
  have hAlo : ∀ q, va_A (xoW cI cR cS cL x0 b o0 (σ, ra, sb, hd, ol, out)) s.heap.size q → lo ≤ q := eA_lo hD0 hlo
  generalize hAe : va_A (xoW cI cR cS cL x0 b o0 (σ, ra, sb, hd, ol, out)) s.heap.size = A at hD hAlo ⊢
  have hA : ∀ q : Nat, s.heap.size ≤ q → A q := fun q h => by rw [← hAe]; exact Or.inr h
  have hS : va_S A s.heap s.heap [] := va_S.rf
  have hP : va_P dD vwCl (xoW cI cR cS cL x0 b o0 (σ, ra, sb, hd, ol, out)) s.heap := hP
  have hl := lv_entry ([.ref x0, .int f, .int e, .int x, .ref o0]) (n := 6) (Nat.le_of_ble_eq_true rfl)
  rw [lg_entry_eq]
  generalize (lg_sl ([.ref x0, .int f, .int e, .int x, .ref o0]) ++ List.replicate (6 - (lg_sl ([.ref x0, .int f, .int e, .int x, .ref o0])).length) Slot.unset).toArray = ls at hl ⊢
  have hl : lv_has ls 6 [(0, .ref x0), (1, .int f), (2, .int e), (3, .int x), (4, .ref o0)] := hl
  
  refine lv_aload hx hb dL_greatestTile_0 (lv_at hl 4 rfl) ?_
  refine lv_iconst (v := nI 0) hx hb dL_greatestTile_2 (by decide +kernel) ?_
  refine lv_aload_n hx hb dL_greatestTile_3 rfl (lv_at hl 0 rfl) ?_
  refine lv_iload_n hx hb dL_greatestTile_4 rfl (lv_at hl 1 rfl) ?_
  refine lv_iload_n hx hb dL_greatestTile_5 rfl (lv_at hl 2 rfl) ?_
  refine lv_iload_n hx hb dL_greatestTile_6 rfl (lv_at hl 3 rfl) ?_
  have htab : c.exceptionTable.toList = tableOf [(0, 12, 15, 13)] := vx_table (x := yL_greatestTile) B (hts _ List.mem_cons_self)
  refine nx_calli (vx_runV (As := [.int f, .int e, .int x]) (rest := [.int (nI 0), .ref o0]) ⟨hx, hb, hml, hown, hts⟩ (c_X2_greatestTile l dD cI cR cS lo hfl x0 b ra sb hd ol σ hI hX f e x) (cwV 3 hts gL_greatestTile_X2_greatestTile rfl rfl rfl (by decide +kernel) ⟨Nat.le_of_ble_eq_true rfl, Nat.le_of_ble_eq_true rfl⟩) (ePreV hE va_S.rf hP (k := 1) rfl rfl (vP_app2 (w1 := [(o0, .inl (cL, 1, .inr (.inl out)))]) hP)) rfl rfl hl.1 rfl (lv_room (Nat.le_of_ble_eq_true rfl)) dL_greatestTile_7 ⟨Nat.le_of_ble_eq_true rfl, Nat.le_of_ble_eq_true rfl⟩) (fun E ce q9 H1 hX9 hz9 hk9 hc9 hv9 hf9 => ?_) (fun r_ hr_ => ?_)
  · have hS : va_S A s.heap H1 [] := ⟨hz9, fun q hq _ => hk9 q hq, fun z hz => absurd hz List.not_mem_nil⟩
    have hP := vP_kept hP hk9
    obtain ⟨rfl, hX9⟩ := hX9
    refine vx_catch (name := nIAE) hown [] ⟨0, 12, 15, 13⟩ [] htab (fun z hz => absurd hz List.not_mem_nil) (by decide) (by decide) (hts (.classLink RL 13 nIAE) (by decide +kernel)) (va_Nw.use rfl (hE.1.2.2.2.2.2.2.2.1 (.castable nIAE nIAE) (by decide +kernel))) hc9 hv9 hf9 ?_
    refine lv_astore (lv' := [(5, .ref q9), (0, .ref x0), (1, .int f), (2, .int e), (3, .int x), (4, .ref o0)]) hx hb dL_greatestTile_15 hl (by decide) rfl (fun ls hl => ?_)
    refine lv_iconst (v := nI 1) hx hb dL_greatestTile_17 (by decide +kernel) ?_
    exact W.iret (v := nI 1) hx hb hr (fun u9 hu9 hW => ⟨⟨nI 1, (σ, ra, sb, hd, ol, out), rfl, ⟨Or.inr (Or.inl ⟨hX9, rfl, rfl⟩), ⟨hI, hX, hJ⟩⟩, by have h9 := hP; rw [← hu9] at h9; exact ⟨h9, hAe ▸ hD⟩⟩, hS.F hu9⟩) hS.2.2 dL_greatestTile_18
  · obtain ⟨hok, rfl⟩ := hr_
    refine lv_i2l (v := ((nI (q_gt σ (plN f e) (cl x) (s_n σ)))).toInt64) hx hb dL_greatestTile_10 rfl ?_
    refine va_last hx hb hKL hP hD hS 0 0 rfl rfl (vp_in_nI (by decide) (by decide)) dL_greatestTile_11 (fun H locs hP hD hS => ?_)
    have hP : va_P dD vwCl (xoW cI cR cS cL x0 b o0 (σ, ra, sb, hd, ol, vp_updL out (nI 0).toNatClampNeg ((nI (q_gt σ (plN f e) (cl x) (s_n σ)))).toInt64)) H := hP
    have hD : va_D A (xoW cI cR cS cL x0 b o0 (σ, ra, sb, hd, ol, vp_updL out (nI 0).toNatClampNeg ((nI (q_gt σ (plN f e) (cl x) (s_n σ)))).toInt64)) := hD
    refine lv_goto (tgt := 19) hx hb dL_greatestTile_12 (by decide) ?_
    refine lv_iconst (v := nI 0) hx hb dL_greatestTile_19 (by decide +kernel) ?_
    exact W.iret (v := nI 0) hx hb hr (fun u9 hu9 hW => ⟨⟨nI 0, (σ, ra, sb, hd, ol, vp_updL out (nI 0).toNatClampNeg ((nI (q_gt σ (plN f e) (cl x) (s_n σ)))).toInt64), rfl, ⟨Or.inl ⟨hok, trivial, rfl, rfl, upL0 (f := out)⟩, ⟨hI, hX, hJ⟩⟩, by have h9 := hP; rw [← hu9] at h9; exact ⟨h9, hAe ▸ hD⟩⟩, hS.F hu9⟩) hS.2.2 dL_greatestTile_20

set_option maxHeartbeats 4000000 in
set_option maxRecDepth 100000 in
theorem c_L_tiles (l : Launch) (dD : va_G) (cI cR cS : ClassId) (lo : Nat) (cL : ClassId) (hfl : l.stackTraces = false) (sz : Nat) (hlo : lo ≤ sz) (x0 : Nat) (b : Nat → Nat) (o0 : Nat) (ra sb hd ol : Nat → Nat) (σ : St) (out : Nat → Int64) (hI : sI σ) (hX : xI σ hd ol) (hJ : xJ σ hd ol) (f e x : Int32) : Met l yL_tiles wsL_tiles ({ frames := 9, cells := 3, slots := 18, locals := 152 }) (lPc dD cI cR cS cL lo [.ref x0, .int f, .int e, .int x, .ref o0] (fun H => H.size = sz ∧ va_P dD vwCl (xoW cI cR cS cL x0 b o0 (σ, ra, sb, hd, ol, out)) H ∧ va_D (fun q => lo ≤ q) (xoW cI cR cS cL x0 b o0 (σ, ra, sb, hd, ol, out)))) (va_Qi (fun (r : Int32) (u : XU) => R3X (okP f e ∧ rg x 1 10000) (True) σ (σ) (nI (q_tl σ (plN f e) (cl x) (s_n σ))) r u) (fun u t => va_P dD vwCl (xoW cI cR cS cL x0 b o0 u) t.heap ∧ va_D (va_A (xoW cI cR cS cL x0 b o0 (σ, ra, sb, hd, ol, out)) sz) (xoW cI cR cS cL x0 b o0 u)) (va_A (xoW cI cR cS cL x0 b o0 (σ, ra, sb, hd, ol, out)) sz)) 3 18 (va_A (xoW cI cR cS cL x0 b o0 (σ, ra, sb, hd, ol, out)) sz) := by
  refine Met.ofWH (cc := cL_tiles) (maxL := 6) (ret := (some .int)) (by decide) rfl ?_
  intro p e_ s m args below meth c s₁ B hml hv
  obtain ⟨rfl, hE, hKL, hsz, hP, hD0⟩ := hv
  have hx := B.exec
  have hb := B.bytes
  have hr := B.returns
  have hts := atoms_spec (ws := wsL_tiles) B.pre
  have hown : s.vm.findClass RL = some m.cls := findClass_of_methodNamed B.named
  have hlocks := B.notSynchronized
  have hK := hE.1.1
  subst hsz
  have hD := hD0.self (sz := s.heap.size)
  have hAlo : ∀ q, va_A (xoW cI cR cS cL x0 b o0 (σ, ra, sb, hd, ol, out)) s.heap.size q → lo ≤ q := eA_lo hD0 hlo
  generalize hAe : va_A (xoW cI cR cS cL x0 b o0 (σ, ra, sb, hd, ol, out)) s.heap.size = A at hD hAlo ⊢
  have hA : ∀ q : Nat, s.heap.size ≤ q → A q := fun q h => by rw [← hAe]; exact Or.inr h
  have hS : va_S A s.heap s.heap [] := va_S.rf
  have hP : va_P dD vwCl (xoW cI cR cS cL x0 b o0 (σ, ra, sb, hd, ol, out)) s.heap := hP
  have hl := lv_entry ([.ref x0, .int f, .int e, .int x, .ref o0]) (n := 6) (Nat.le_of_ble_eq_true rfl)
  rw [lg_entry_eq]
  generalize (lg_sl ([.ref x0, .int f, .int e, .int x, .ref o0]) ++ List.replicate (6 - (lg_sl ([.ref x0, .int f, .int e, .int x, .ref o0])).length) Slot.unset).toArray = ls at hl ⊢
  have hl : lv_has ls 6 [(0, .ref x0), (1, .int f), (2, .int e), (3, .int x), (4, .ref o0)] := hl
  
  refine lv_aload hx hb dL_tiles_0 (lv_at hl 4 rfl) ?_
  refine lv_iconst (v := nI 0) hx hb dL_tiles_2 (by decide +kernel) ?_
  refine lv_aload_n hx hb dL_tiles_3 rfl (lv_at hl 0 rfl) ?_
  refine lv_iload_n hx hb dL_tiles_4 rfl (lv_at hl 1 rfl) ?_
  refine lv_iload_n hx hb dL_tiles_5 rfl (lv_at hl 2 rfl) ?_
  refine lv_iload_n hx hb dL_tiles_6 rfl (lv_at hl 3 rfl) ?_
  have htab : c.exceptionTable.toList = tableOf [(0, 12, 15, 13)] := vx_table (x := yL_tiles) B (hts _ List.mem_cons_self)
  refine nx_calli (vx_runV (As := [.int f, .int e, .int x]) (rest := [.int (nI 0), .ref o0]) ⟨hx, hb, hml, hown, hts⟩ (c_X2_tiles l dD cI cR cS lo hfl x0 b ra sb hd ol σ hI hX f e x) (cwV 3 hts gL_tiles_X2_tiles rfl rfl rfl (by decide +kernel) ⟨Nat.le_of_ble_eq_true rfl, Nat.le_of_ble_eq_true rfl⟩) (ePreV hE va_S.rf hP (k := 1) rfl rfl (vP_app2 (w1 := [(o0, .inl (cL, 1, .inr (.inl out)))]) hP)) rfl rfl hl.1 rfl (lv_room (Nat.le_of_ble_eq_true rfl)) dL_tiles_7 ⟨Nat.le_of_ble_eq_true rfl, Nat.le_of_ble_eq_true rfl⟩) (fun E ce q9 H1 hX9 hz9 hk9 hc9 hv9 hf9 => ?_) (fun r_ hr_ => ?_)
  · have hS : va_S A s.heap H1 [] := ⟨hz9, fun q hq _ => hk9 q hq, fun z hz => absurd hz List.not_mem_nil⟩
    have hP := vP_kept hP hk9
    obtain ⟨rfl, hX9⟩ := hX9
    refine vx_catch (name := nIAE) hown [] ⟨0, 12, 15, 13⟩ [] htab (fun z hz => absurd hz List.not_mem_nil) (by decide) (by decide) (hts (.classLink RL 13 nIAE) (by decide +kernel)) (va_Nw.use rfl (hE.1.2.2.2.2.2.2.2.1 (.castable nIAE nIAE) (by decide +kernel))) hc9 hv9 hf9 ?_
    refine lv_astore (lv' := [(5, .ref q9), (0, .ref x0), (1, .int f), (2, .int e), (3, .int x), (4, .ref o0)]) hx hb dL_tiles_15 hl (by decide) rfl (fun ls hl => ?_)
    refine lv_iconst (v := nI 1) hx hb dL_tiles_17 (by decide +kernel) ?_
    exact W.iret (v := nI 1) hx hb hr (fun u9 hu9 hW => ⟨⟨nI 1, (σ, ra, sb, hd, ol, out), rfl, ⟨Or.inr (Or.inl ⟨hX9, rfl, rfl⟩), ⟨hI, hX, hJ⟩⟩, by have h9 := hP; rw [← hu9] at h9; exact ⟨h9, hAe ▸ hD⟩⟩, hS.F hu9⟩) hS.2.2 dL_tiles_18
  · obtain ⟨hok, rfl⟩ := hr_
    refine lv_i2l (v := ((nI (q_tl σ (plN f e) (cl x) (s_n σ)))).toInt64) hx hb dL_tiles_10 rfl ?_
    refine va_last hx hb hKL hP hD hS 0 0 rfl rfl (vp_in_nI (by decide) (by decide)) dL_tiles_11 (fun H locs hP hD hS => ?_)
    have hP : va_P dD vwCl (xoW cI cR cS cL x0 b o0 (σ, ra, sb, hd, ol, vp_updL out (nI 0).toNatClampNeg ((nI (q_tl σ (plN f e) (cl x) (s_n σ)))).toInt64)) H := hP
    have hD : va_D A (xoW cI cR cS cL x0 b o0 (σ, ra, sb, hd, ol, vp_updL out (nI 0).toNatClampNeg ((nI (q_tl σ (plN f e) (cl x) (s_n σ)))).toInt64)) := hD
    refine lv_goto (tgt := 19) hx hb dL_tiles_12 (by decide) ?_
    refine lv_iconst (v := nI 0) hx hb dL_tiles_19 (by decide +kernel) ?_
    exact W.iret (v := nI 0) hx hb hr (fun u9 hu9 hW => ⟨⟨nI 0, (σ, ra, sb, hd, ol, vp_updL out (nI 0).toNatClampNeg ((nI (q_tl σ (plN f e) (cl x) (s_n σ)))).toInt64), rfl, ⟨Or.inl ⟨hok, trivial, rfl, rfl, upL0 (f := out)⟩, ⟨hI, hX, hJ⟩⟩, by have h9 := hP; rw [← hu9] at h9; exact ⟨h9, hAe ▸ hD⟩⟩, hS.F hu9⟩) hS.2.2 dL_tiles_20

set_option maxHeartbeats 4000000 in
set_option maxRecDepth 100000 in
theorem c_L_revised (l : Launch) (dD : va_G) (cI cR cS : ClassId) (lo : Nat) (cL : ClassId) (hfl : l.stackTraces = false) (sz : Nat) (hlo : lo ≤ sz) (x0 : Nat) (b : Nat → Nat) (o0 : Nat) (ra sb hd ol : Nat → Nat) (σ : St) (out : Nat → Int64) (hI : sI σ) (hX : xI σ hd ol) (hJ : xJ σ hd ol) (f e x : Int32) : Met l yL_revised wsL_revised ({ frames := 9, cells := 3, slots := 18, locals := 153 }) (lPc dD cI cR cS cL lo [.ref x0, .int f, .int e, .int x, .ref o0] (fun H => H.size = sz ∧ va_P dD vwCl (xoW cI cR cS cL x0 b o0 (σ, ra, sb, hd, ol, out)) H ∧ va_D (fun q => lo ≤ q) (xoW cI cR cS cL x0 b o0 (σ, ra, sb, hd, ol, out)))) (va_Qi (fun (r : Int32) (u : XU) => R3X (okP f e ∧ rg x 1 10000) (True) σ (σ) (nI (q_rev σ (plN f e) (cl x) (s_now σ / cl x + 1))) r u) (fun u t => va_P dD vwCl (xoW cI cR cS cL x0 b o0 u) t.heap ∧ va_D (va_A (xoW cI cR cS cL x0 b o0 (σ, ra, sb, hd, ol, out)) sz) (xoW cI cR cS cL x0 b o0 u)) (va_A (xoW cI cR cS cL x0 b o0 (σ, ra, sb, hd, ol, out)) sz)) 3 18 (va_A (xoW cI cR cS cL x0 b o0 (σ, ra, sb, hd, ol, out)) sz) := by
  refine Met.ofWH (cc := cL_revised) (maxL := 6) (ret := (some .int)) (by decide) rfl ?_
  intro p e_ s m args below meth c s₁ B hml hv
  obtain ⟨rfl, hE, hKL, hsz, hP, hD0⟩ := hv
  have hx := B.exec
  have hb := B.bytes
  have hr := B.returns
  have hts := atoms_spec (ws := wsL_revised) B.pre
  have hown : s.vm.findClass RL = some m.cls := findClass_of_methodNamed B.named
  have hlocks := B.notSynchronized
  have hK := hE.1.1
  subst hsz
  have hD := hD0.self (sz := s.heap.size)
  have hAlo : ∀ q, va_A (xoW cI cR cS cL x0 b o0 (σ, ra, sb, hd, ol, out)) s.heap.size q → lo ≤ q := eA_lo hD0 hlo
  generalize hAe : va_A (xoW cI cR cS cL x0 b o0 (σ, ra, sb, hd, ol, out)) s.heap.size = A at hD hAlo ⊢
  have hA : ∀ q : Nat, s.heap.size ≤ q → A q := fun q h => by rw [← hAe]; exact Or.inr h
  have hS : va_S A s.heap s.heap [] := va_S.rf
  have hP : va_P dD vwCl (xoW cI cR cS cL x0 b o0 (σ, ra, sb, hd, ol, out)) s.heap := hP
  have hl := lv_entry ([.ref x0, .int f, .int e, .int x, .ref o0]) (n := 6) (Nat.le_of_ble_eq_true rfl)
  rw [lg_entry_eq]
  generalize (lg_sl ([.ref x0, .int f, .int e, .int x, .ref o0]) ++ List.replicate (6 - (lg_sl ([.ref x0, .int f, .int e, .int x, .ref o0])).length) Slot.unset).toArray = ls at hl ⊢
  have hl : lv_has ls 6 [(0, .ref x0), (1, .int f), (2, .int e), (3, .int x), (4, .ref o0)] := hl
  
  refine lv_aload hx hb dL_revised_0 (lv_at hl 4 rfl) ?_
  refine lv_iconst (v := nI 0) hx hb dL_revised_2 (by decide +kernel) ?_
  refine lv_aload_n hx hb dL_revised_3 rfl (lv_at hl 0 rfl) ?_
  refine lv_iload_n hx hb dL_revised_4 rfl (lv_at hl 1 rfl) ?_
  refine lv_iload_n hx hb dL_revised_5 rfl (lv_at hl 2 rfl) ?_
  refine lv_iload_n hx hb dL_revised_6 rfl (lv_at hl 3 rfl) ?_
  have htab : c.exceptionTable.toList = tableOf [(0, 12, 15, 13)] := vx_table (x := yL_revised) B (hts _ List.mem_cons_self)
  refine nx_calli (vx_runV (As := [.int f, .int e, .int x]) (rest := [.int (nI 0), .ref o0]) ⟨hx, hb, hml, hown, hts⟩ (c_X2_revised l dD cI cR cS lo hfl x0 b ra sb hd ol σ hI hX f e x) (cwV 3 hts gL_revised_X2_revised rfl rfl rfl (by decide +kernel) ⟨Nat.le_of_ble_eq_true rfl, Nat.le_of_ble_eq_true rfl⟩) (ePreV hE va_S.rf hP (k := 1) rfl rfl (vP_app2 (w1 := [(o0, .inl (cL, 1, .inr (.inl out)))]) hP)) rfl rfl hl.1 rfl (lv_room (Nat.le_of_ble_eq_true rfl)) dL_revised_7 ⟨Nat.le_of_ble_eq_true rfl, Nat.le_of_ble_eq_true rfl⟩) (fun E ce q9 H1 hX9 hz9 hk9 hc9 hv9 hf9 => ?_) (fun r_ hr_ => ?_)
  · have hS : va_S A s.heap H1 [] := ⟨hz9, fun q hq _ => hk9 q hq, fun z hz => absurd hz List.not_mem_nil⟩
    have hP := vP_kept hP hk9
    obtain ⟨rfl, hX9⟩ := hX9
    refine vx_catch (name := nIAE) hown [] ⟨0, 12, 15, 13⟩ [] htab (fun z hz => absurd hz List.not_mem_nil) (by decide) (by decide) (hts (.classLink RL 13 nIAE) (by decide +kernel)) (va_Nw.use rfl (hE.1.2.2.2.2.2.2.2.1 (.castable nIAE nIAE) (by decide +kernel))) hc9 hv9 hf9 ?_
    refine lv_astore (lv' := [(5, .ref q9), (0, .ref x0), (1, .int f), (2, .int e), (3, .int x), (4, .ref o0)]) hx hb dL_revised_15 hl (by decide) rfl (fun ls hl => ?_)
    refine lv_iconst (v := nI 1) hx hb dL_revised_17 (by decide +kernel) ?_
    exact W.iret (v := nI 1) hx hb hr (fun u9 hu9 hW => ⟨⟨nI 1, (σ, ra, sb, hd, ol, out), rfl, ⟨Or.inr (Or.inl ⟨hX9, rfl, rfl⟩), ⟨hI, hX, hJ⟩⟩, by have h9 := hP; rw [← hu9] at h9; exact ⟨h9, hAe ▸ hD⟩⟩, hS.F hu9⟩) hS.2.2 dL_revised_18
  · obtain ⟨hok, rfl⟩ := hr_
    refine lv_i2l (v := ((nI (q_rev σ (plN f e) (cl x) (s_now σ / cl x + 1)))).toInt64) hx hb dL_revised_10 rfl ?_
    refine va_last hx hb hKL hP hD hS 0 0 rfl rfl (vp_in_nI (by decide) (by decide)) dL_revised_11 (fun H locs hP hD hS => ?_)
    have hP : va_P dD vwCl (xoW cI cR cS cL x0 b o0 (σ, ra, sb, hd, ol, vp_updL out (nI 0).toNatClampNeg ((nI (q_rev σ (plN f e) (cl x) (s_now σ / cl x + 1)))).toInt64)) H := hP
    have hD : va_D A (xoW cI cR cS cL x0 b o0 (σ, ra, sb, hd, ol, vp_updL out (nI 0).toNatClampNeg ((nI (q_rev σ (plN f e) (cl x) (s_now σ / cl x + 1)))).toInt64)) := hD
    refine lv_goto (tgt := 19) hx hb dL_revised_12 (by decide) ?_
    refine lv_iconst (v := nI 0) hx hb dL_revised_19 (by decide +kernel) ?_
    exact W.iret (v := nI 0) hx hb hr (fun u9 hu9 hW => ⟨⟨nI 0, (σ, ra, sb, hd, ol, vp_updL out (nI 0).toNatClampNeg ((nI (q_rev σ (plN f e) (cl x) (s_now σ / cl x + 1)))).toInt64), rfl, ⟨Or.inl ⟨hok, trivial, rfl, rfl, upL0 (f := out)⟩, ⟨hI, hX, hJ⟩⟩, by have h9 := hP; rw [← hu9] at h9; exact ⟨h9, hAe ▸ hD⟩⟩, hS.F hu9⟩) hS.2.2 dL_revised_20

set_option maxHeartbeats 4000000 in
set_option maxRecDepth 100000 in
theorem c_L_online (l : Launch) (dD : va_G) (cI cR cS : ClassId) (lo : Nat) (cL : ClassId) (hfl : l.stackTraces = false) (sz : Nat) (hlo : lo ≤ sz) (x0 : Nat) (b : Nat → Nat) (o0 : Nat) (ra sb hd ol : Nat → Nat) (σ : St) (out : Nat → Int64) (hI : sI σ) (hX : xI σ hd ol) (hJ : xJ σ hd ol) (f e : Int32) : Met l yL_online wsL_online ({ frames := 9, cells := 2, slots := 12, locals := 147 }) (lPc dD cI cR cS cL lo [.ref x0, .int f, .int e, .ref o0] (fun H => H.size = sz ∧ va_P dD vwCl (xoW cI cR cS cL x0 b o0 (σ, ra, sb, hd, ol, out)) H ∧ va_D (fun q => lo ≤ q) (xoW cI cR cS cL x0 b o0 (σ, ra, sb, hd, ol, out)))) (va_Qi (fun (r : Int32) (u : XU) => R3X (okP f e) (True) σ (σ) (eN (q_fr σ (s_cp σ (plN f e)) (s_now σ))) r u) (fun u t => va_P dD vwCl (xoW cI cR cS cL x0 b o0 u) t.heap ∧ va_D (va_A (xoW cI cR cS cL x0 b o0 (σ, ra, sb, hd, ol, out)) sz) (xoW cI cR cS cL x0 b o0 u)) (va_A (xoW cI cR cS cL x0 b o0 (σ, ra, sb, hd, ol, out)) sz)) 2 12 (va_A (xoW cI cR cS cL x0 b o0 (σ, ra, sb, hd, ol, out)) sz) := by
  refine Met.ofWH (cc := cL_online) (maxL := 5) (ret := (some .int)) (by decide) rfl ?_
  intro p e_ s m args below meth c s₁ B hml hv
  obtain ⟨rfl, hE, hKL, hsz, hP, hD0⟩ := hv
  have hx := B.exec
  have hb := B.bytes
  have hr := B.returns
  have hts := atoms_spec (ws := wsL_online) B.pre
  have hown : s.vm.findClass RL = some m.cls := findClass_of_methodNamed B.named
  have hlocks := B.notSynchronized
  have hK := hE.1.1
  subst hsz
  have hD := hD0.self (sz := s.heap.size)
  have hAlo : ∀ q, va_A (xoW cI cR cS cL x0 b o0 (σ, ra, sb, hd, ol, out)) s.heap.size q → lo ≤ q := eA_lo hD0 hlo
  generalize hAe : va_A (xoW cI cR cS cL x0 b o0 (σ, ra, sb, hd, ol, out)) s.heap.size = A at hD hAlo ⊢
  have hA : ∀ q : Nat, s.heap.size ≤ q → A q := fun q h => by rw [← hAe]; exact Or.inr h
  have hS : va_S A s.heap s.heap [] := va_S.rf
  have hP : va_P dD vwCl (xoW cI cR cS cL x0 b o0 (σ, ra, sb, hd, ol, out)) s.heap := hP
  have hl := lv_entry ([.ref x0, .int f, .int e, .ref o0]) (n := 5) (Nat.le_of_ble_eq_true rfl)
  rw [lg_entry_eq]
  generalize (lg_sl ([.ref x0, .int f, .int e, .ref o0]) ++ List.replicate (5 - (lg_sl ([.ref x0, .int f, .int e, .ref o0])).length) Slot.unset).toArray = ls at hl ⊢
  have hl : lv_has ls 5 [(0, .ref x0), (1, .int f), (2, .int e), (3, .ref o0)] := hl
  
  refine lv_aload_n hx hb dL_online_0 rfl (lv_at hl 3 rfl) ?_
  refine lv_iconst (v := nI 0) hx hb dL_online_1 (by decide +kernel) ?_
  refine lv_aload_n hx hb dL_online_2 rfl (lv_at hl 0 rfl) ?_
  refine lv_iload_n hx hb dL_online_3 rfl (lv_at hl 1 rfl) ?_
  refine lv_iload_n hx hb dL_online_4 rfl (lv_at hl 2 rfl) ?_
  have htab : c.exceptionTable.toList = tableOf [(0, 10, 13, 13)] := vx_table (x := yL_online) B (hts _ List.mem_cons_self)
  refine nx_calli (vx_runV (As := [.int f, .int e]) (rest := [.int (nI 0), .ref o0]) ⟨hx, hb, hml, hown, hts⟩ (c_X2_online l dD cI cR cS lo hfl x0 b ra sb hd ol σ hI f e) (cwV 2 hts gL_online_X2_online rfl rfl rfl (by decide +kernel) ⟨Nat.le_of_ble_eq_true rfl, Nat.le_of_ble_eq_true rfl⟩) (ePreV hE va_S.rf hP (k := 1) rfl rfl (vP_app2 (w1 := [(o0, .inl (cL, 1, .inr (.inl out)))]) hP)) rfl rfl hl.1 rfl (lv_room (Nat.le_of_ble_eq_true rfl)) dL_online_5 ⟨Nat.le_of_ble_eq_true rfl, Nat.le_of_ble_eq_true rfl⟩) (fun E ce q9 H1 hX9 hz9 hk9 hc9 hv9 hf9 => ?_) (fun r_ hr_ => ?_)
  · have hS : va_S A s.heap H1 [] := ⟨hz9, fun q hq _ => hk9 q hq, fun z hz => absurd hz List.not_mem_nil⟩
    have hP := vP_kept hP hk9
    obtain ⟨rfl, hX9⟩ := hX9
    refine vx_catch (name := nIAE) hown [] ⟨0, 10, 13, 13⟩ [] htab (fun z hz => absurd hz List.not_mem_nil) (by decide) (by decide) (hts (.classLink RL 13 nIAE) (by decide +kernel)) (va_Nw.use rfl (hE.1.2.2.2.2.2.2.2.1 (.castable nIAE nIAE) (by decide +kernel))) hc9 hv9 hf9 ?_
    refine lv_astore (lv' := [(4, .ref q9), (0, .ref x0), (1, .int f), (2, .int e), (3, .ref o0)]) hx hb dL_online_13 hl (by decide) rfl (fun ls hl => ?_)
    refine lv_iconst (v := nI 1) hx hb dL_online_15 (by decide +kernel) ?_
    exact W.iret (v := nI 1) hx hb hr (fun u9 hu9 hW => ⟨⟨nI 1, (σ, ra, sb, hd, ol, out), rfl, ⟨Or.inr (Or.inl ⟨hX9, rfl, rfl⟩), ⟨hI, hX, hJ⟩⟩, by have h9 := hP; rw [← hu9] at h9; exact ⟨h9, hAe ▸ hD⟩⟩, hS.F hu9⟩) hS.2.2 dL_online_16
  · obtain ⟨hok, rfl⟩ := hr_
    refine lv_i2l (v := ((eN (q_fr σ (s_cp σ (plN f e)) (s_now σ)))).toInt64) hx hb dL_online_8 rfl ?_
    refine va_last hx hb hKL hP hD hS 0 0 rfl rfl (vp_in_nI (by decide) (by decide)) dL_online_9 (fun H locs hP hD hS => ?_)
    have hP : va_P dD vwCl (xoW cI cR cS cL x0 b o0 (σ, ra, sb, hd, ol, vp_updL out (nI 0).toNatClampNeg ((eN (q_fr σ (s_cp σ (plN f e)) (s_now σ)))).toInt64)) H := hP
    have hD : va_D A (xoW cI cR cS cL x0 b o0 (σ, ra, sb, hd, ol, vp_updL out (nI 0).toNatClampNeg ((eN (q_fr σ (s_cp σ (plN f e)) (s_now σ)))).toInt64)) := hD
    refine lv_goto (tgt := 17) hx hb dL_online_10 (by decide) ?_
    refine lv_iconst (v := nI 0) hx hb dL_online_17 (by decide +kernel) ?_
    exact W.iret (v := nI 0) hx hb hr (fun u9 hu9 hW => ⟨⟨nI 0, (σ, ra, sb, hd, ol, vp_updL out (nI 0).toNatClampNeg ((eN (q_fr σ (s_cp σ (plN f e)) (s_now σ)))).toInt64), rfl, ⟨Or.inl ⟨hok, trivial, rfl, rfl, upL0 (f := out)⟩, ⟨hI, hX, hJ⟩⟩, by have h9 := hP; rw [← hu9] at h9; exact ⟨h9, hAe ▸ hD⟩⟩, hS.F hu9⟩) hS.2.2 dL_online_18

set_option maxHeartbeats 4000000 in
set_option maxRecDepth 100000 in
theorem c_L_served (l : Launch) (dD : va_G) (cI cR cS : ClassId) (lo : Nat) (cL : ClassId) (hfl : l.stackTraces = false) (sz : Nat) (hlo : lo ≤ sz) (x0 : Nat) (b : Nat → Nat) (o0 : Nat) (ra sb hd ol : Nat → Nat) (σ : St) (out : Nat → Int64) (hI : sI σ) (hX : xI σ hd ol) (hJ : xJ σ hd ol) (x : Int32) : Met l yL_served wsL_served ({ frames := 8, cells := 1, slots := 6, locals := 124 }) (lPc dD cI cR cS cL lo [.ref x0, .int x, .ref o0] (fun H => H.size = sz ∧ va_P dD vwCl (xoW cI cR cS cL x0 b o0 (σ, ra, sb, hd, ol, out)) H ∧ va_D (fun q => lo ≤ q) (xoW cI cR cS cL x0 b o0 (σ, ra, sb, hd, ol, out)))) (va_Qi (fun (r : Int32) (u : XU) => R3X (ri x (s_k σ)) (True) σ (σ) (eN (s_sv σ (cl x))) r u) (fun u t => va_P dD vwCl (xoW cI cR cS cL x0 b o0 u) t.heap ∧ va_D (va_A (xoW cI cR cS cL x0 b o0 (σ, ra, sb, hd, ol, out)) sz) (xoW cI cR cS cL x0 b o0 u)) (va_A (xoW cI cR cS cL x0 b o0 (σ, ra, sb, hd, ol, out)) sz)) 1 6 (va_A (xoW cI cR cS cL x0 b o0 (σ, ra, sb, hd, ol, out)) sz) := by
  refine Met.ofWH (cc := cL_served) (maxL := 4) (ret := (some .int)) (by decide) rfl ?_
  intro p e_ s m args below meth c s₁ B hml hv
  obtain ⟨rfl, hE, hKL, hsz, hP, hD0⟩ := hv
  have hx := B.exec
  have hb := B.bytes
  have hr := B.returns
  have hts := atoms_spec (ws := wsL_served) B.pre
  have hown : s.vm.findClass RL = some m.cls := findClass_of_methodNamed B.named
  have hlocks := B.notSynchronized
  have hK := hE.1.1
  subst hsz
  have hD := hD0.self (sz := s.heap.size)
  have hAlo : ∀ q, va_A (xoW cI cR cS cL x0 b o0 (σ, ra, sb, hd, ol, out)) s.heap.size q → lo ≤ q := eA_lo hD0 hlo
  generalize hAe : va_A (xoW cI cR cS cL x0 b o0 (σ, ra, sb, hd, ol, out)) s.heap.size = A at hD hAlo ⊢
  have hA : ∀ q : Nat, s.heap.size ≤ q → A q := fun q h => by rw [← hAe]; exact Or.inr h
  have hS : va_S A s.heap s.heap [] := va_S.rf
  have hP : va_P dD vwCl (xoW cI cR cS cL x0 b o0 (σ, ra, sb, hd, ol, out)) s.heap := hP
  have hl := lv_entry ([.ref x0, .int x, .ref o0]) (n := 4) (Nat.le_of_ble_eq_true rfl)
  rw [lg_entry_eq]
  generalize (lg_sl ([.ref x0, .int x, .ref o0]) ++ List.replicate (4 - (lg_sl ([.ref x0, .int x, .ref o0])).length) Slot.unset).toArray = ls at hl ⊢
  have hl : lv_has ls 4 [(0, .ref x0), (1, .int x), (2, .ref o0)] := hl
  
  refine lv_aload_n hx hb dL_served_0 rfl (lv_at hl 2 rfl) ?_
  refine lv_iconst (v := nI 0) hx hb dL_served_1 (by decide +kernel) ?_
  refine lv_aload_n hx hb dL_served_2 rfl (lv_at hl 0 rfl) ?_
  refine lv_iload_n hx hb dL_served_3 rfl (lv_at hl 1 rfl) ?_
  have htab : c.exceptionTable.toList = tableOf [(0, 9, 12, 28)] := vx_table (x := yL_served) B (hts _ List.mem_cons_self)
  refine nx_calli (vx_runV (As := [.int x]) (rest := [.int (nI 0), .ref o0]) ⟨hx, hb, hml, hown, hts⟩ (c_X2_served l dD cI cR cS lo hfl x0 b ra sb hd ol σ hI x) (cwV 1 hts gL_served_X2_served rfl rfl rfl (by decide +kernel) ⟨Nat.le_of_ble_eq_true rfl, Nat.le_of_ble_eq_true rfl⟩) (ePreV hE va_S.rf hP (k := 1) rfl rfl (vP_app2 (w1 := [(o0, .inl (cL, 1, .inr (.inl out)))]) hP)) rfl rfl hl.1 rfl (lv_room (Nat.le_of_ble_eq_true rfl)) dL_served_4 ⟨Nat.le_of_ble_eq_true rfl, Nat.le_of_ble_eq_true rfl⟩) (fun E ce q9 H1 hX9 hz9 hk9 hc9 hv9 hf9 => ?_) (fun r_ hr_ => ?_)
  · have hS : va_S A s.heap H1 [] := ⟨hz9, fun q hq _ => hk9 q hq, fun z hz => absurd hz List.not_mem_nil⟩
    have hP := vP_kept hP hk9
    obtain ⟨rfl, hX9⟩ := hX9
    refine vx_catch (name := nIOB) hown [] ⟨0, 9, 12, 28⟩ [] htab (fun z hz => absurd hz List.not_mem_nil) (by decide) (by decide) (hts (.classLink RL 28 nIOB) (by decide +kernel)) (va_Nw.use rfl (hE.1.2.2.2.2.2.2.2.1 (.castable nIOB nIOB) (by decide +kernel))) hc9 hv9 hf9 ?_
    refine lv_astore_n (lv' := [(3, .ref q9), (0, .ref x0), (1, .int x), (2, .ref o0)]) hx hb dL_served_12 rfl hl (by decide) rfl (fun ls hl => ?_)
    refine lv_iconst (v := nI 1) hx hb dL_served_13 (by decide +kernel) ?_
    exact W.iret (v := nI 1) hx hb hr (fun u9 hu9 hW => ⟨⟨nI 1, (σ, ra, sb, hd, ol, out), rfl, ⟨Or.inr (Or.inl ⟨hX9, rfl, rfl⟩), ⟨hI, hX, hJ⟩⟩, by have h9 := hP; rw [← hu9] at h9; exact ⟨h9, hAe ▸ hD⟩⟩, hS.F hu9⟩) hS.2.2 dL_served_14
  · obtain ⟨hok, rfl⟩ := hr_
    refine lv_i2l (v := ((eN (s_sv σ (cl x)))).toInt64) hx hb dL_served_7 rfl ?_
    refine va_last hx hb hKL hP hD hS 0 0 rfl rfl (vp_in_nI (by decide) (by decide)) dL_served_8 (fun H locs hP hD hS => ?_)
    have hP : va_P dD vwCl (xoW cI cR cS cL x0 b o0 (σ, ra, sb, hd, ol, vp_updL out (nI 0).toNatClampNeg ((eN (s_sv σ (cl x)))).toInt64)) H := hP
    have hD : va_D A (xoW cI cR cS cL x0 b o0 (σ, ra, sb, hd, ol, vp_updL out (nI 0).toNatClampNeg ((eN (s_sv σ (cl x)))).toInt64)) := hD
    refine lv_goto (tgt := 15) hx hb dL_served_9 (by decide) ?_
    refine lv_iconst (v := nI 0) hx hb dL_served_15 (by decide +kernel) ?_
    exact W.iret (v := nI 0) hx hb hr (fun u9 hu9 hW => ⟨⟨nI 0, (σ, ra, sb, hd, ol, vp_updL out (nI 0).toNatClampNeg ((eN (s_sv σ (cl x)))).toInt64), rfl, ⟨Or.inl ⟨hok, trivial, rfl, rfl, upL0 (f := out)⟩, ⟨hI, hX, hJ⟩⟩, by have h9 := hP; rw [← hu9] at h9; exact ⟨h9, hAe ▸ hD⟩⟩, hS.F hu9⟩) hS.2.2 dL_served_16

theorem q_snd_01 (σ : St) (i : Nat) : q_snd σ i = 0 ∨ q_snd σ i = 1 := by
  unfold q_snd
  split
  · exact Or.inr rfl
  · exact Or.inl rfl

set_option maxHeartbeats 4000000 in
set_option maxRecDepth 100000 in
theorem c_L_isSound (l : Launch) (dD : va_G) (cI cR cS : ClassId) (lo : Nat) (cL : ClassId) (hfl : l.stackTraces = false) (sz : Nat) (hlo : lo ≤ sz) (x0 : Nat) (b : Nat → Nat) (o0 : Nat) (ra sb hd ol : Nat → Nat) (σ : St) (out : Nat → Int64) (hI : sI σ) (hX : xI σ hd ol) (hJ : xJ σ hd ol) (x : Int32) : Met l yL_isSound wsL_isSound ({ frames := 8, cells := 1, slots := 6, locals := 125 }) (lPc dD cI cR cS cL lo [.ref x0, .int x, .ref o0] (fun H => H.size = sz ∧ va_P dD vwCl (xoW cI cR cS cL x0 b o0 (σ, ra, sb, hd, ol, out)) H ∧ va_D (fun q => lo ≤ q) (xoW cI cR cS cL x0 b o0 (σ, ra, sb, hd, ol, out)))) (va_Qi (fun (r : Int32) (u : XU) => R3X (ri x (s_k σ)) (True) σ (σ) (nI (q_snd σ (cl x))) r u) (fun u t => va_P dD vwCl (xoW cI cR cS cL x0 b o0 u) t.heap ∧ va_D (va_A (xoW cI cR cS cL x0 b o0 (σ, ra, sb, hd, ol, out)) sz) (xoW cI cR cS cL x0 b o0 u)) (va_A (xoW cI cR cS cL x0 b o0 (σ, ra, sb, hd, ol, out)) sz)) 1 6 (va_A (xoW cI cR cS cL x0 b o0 (σ, ra, sb, hd, ol, out)) sz) := by
  refine Met.ofWH (cc := cL_isSound) (maxL := 4) (ret := (some .int)) (by decide) rfl ?_
  intro p e_ s m args below meth c s₁ B hml hv
  obtain ⟨rfl, hE, hKL, hsz, hP, hD0⟩ := hv
  have hx := B.exec
  have hb := B.bytes
  have hr := B.returns
  have hts := atoms_spec (ws := wsL_isSound) B.pre
  have hown : s.vm.findClass RL = some m.cls := findClass_of_methodNamed B.named
  have hlocks := B.notSynchronized
  have hK := hE.1.1
  subst hsz
  have hD := hD0.self (sz := s.heap.size)
  have hAlo : ∀ q, va_A (xoW cI cR cS cL x0 b o0 (σ, ra, sb, hd, ol, out)) s.heap.size q → lo ≤ q := eA_lo hD0 hlo
  generalize hAe : va_A (xoW cI cR cS cL x0 b o0 (σ, ra, sb, hd, ol, out)) s.heap.size = A at hD hAlo ⊢
  have hA : ∀ q : Nat, s.heap.size ≤ q → A q := fun q h => by rw [← hAe]; exact Or.inr h
  have hS : va_S A s.heap s.heap [] := va_S.rf
  have hP : va_P dD vwCl (xoW cI cR cS cL x0 b o0 (σ, ra, sb, hd, ol, out)) s.heap := hP
  have hl := lv_entry ([.ref x0, .int x, .ref o0]) (n := 4) (Nat.le_of_ble_eq_true rfl)
  rw [lg_entry_eq]
  generalize (lg_sl ([.ref x0, .int x, .ref o0]) ++ List.replicate (4 - (lg_sl ([.ref x0, .int x, .ref o0])).length) Slot.unset).toArray = ls at hl ⊢
  have hl : lv_has ls 4 [(0, .ref x0), (1, .int x), (2, .ref o0)] := hl
  
  refine lv_aload_n hx hb dL_isSound_0 rfl (lv_at hl 2 rfl) ?_
  refine lv_iconst (v := nI 0) hx hb dL_isSound_1 (by decide +kernel) ?_
  refine lv_aload_n hx hb dL_isSound_2 rfl (lv_at hl 0 rfl) ?_
  refine lv_iload_n hx hb dL_isSound_3 rfl (lv_at hl 1 rfl) ?_
  have htab : c.exceptionTable.toList = tableOf [(0, 16, 19, 28)] := vx_table (x := yL_isSound) B (hts _ List.mem_cons_self)
  refine nx_calli (vx_runV (As := [.int x]) (rest := [.int (nI 0), .ref o0]) ⟨hx, hb, hml, hown, hts⟩ (c_X2_isSound l dD cI cR cS lo hfl x0 b ra sb hd ol σ hI hX x) (cwV 1 hts gL_isSound_X2_isSound rfl rfl rfl (by decide +kernel) ⟨Nat.le_of_ble_eq_true rfl, Nat.le_of_ble_eq_true rfl⟩) (ePreV hE va_S.rf hP (k := 1) rfl rfl (vP_app2 (w1 := [(o0, .inl (cL, 1, .inr (.inl out)))]) hP)) rfl rfl hl.1 rfl (lv_room (Nat.le_of_ble_eq_true rfl)) dL_isSound_4 ⟨Nat.le_of_ble_eq_true rfl, Nat.le_of_ble_eq_true rfl⟩) (fun E ce q9 H1 hX9 hz9 hk9 hc9 hv9 hf9 => ?_) (fun r_ hr_ => ?_)
  · have hS : va_S A s.heap H1 [] := ⟨hz9, fun q hq _ => hk9 q hq, fun z hz => absurd hz List.not_mem_nil⟩
    have hP := vP_kept hP hk9
    obtain ⟨rfl, hX9⟩ := hX9
    refine vx_catch (name := nIOB) hown [] ⟨0, 16, 19, 28⟩ [] htab (fun z hz => absurd hz List.not_mem_nil) (by decide) (by decide) (hts (.classLink RL 28 nIOB) (by decide +kernel)) (va_Nw.use rfl (hE.1.2.2.2.2.2.2.2.1 (.castable nIOB nIOB) (by decide +kernel))) hc9 hv9 hf9 ?_
    refine lv_astore_n (lv' := [(3, .ref q9), (0, .ref x0), (1, .int x), (2, .ref o0)]) hx hb dL_isSound_19 rfl hl (by decide) rfl (fun ls hl => ?_)
    refine lv_iconst (v := nI 1) hx hb dL_isSound_20 (by decide +kernel) ?_
    exact W.iret (v := nI 1) hx hb hr (fun u9 hu9 hW => ⟨⟨nI 1, (σ, ra, sb, hd, ol, out), rfl, ⟨Or.inr (Or.inl ⟨hX9, rfl, rfl⟩), ⟨hI, hX, hJ⟩⟩, by have h9 := hP; rw [← hu9] at h9; exact ⟨h9, hAe ▸ hD⟩⟩, hS.F hu9⟩) hS.2.2 dL_isSound_21
  · obtain ⟨hok, rfl⟩ := hr_
    refine nv_if_eq (tgt := 14) hx hb dL_isSound_7 (by decide) (by have h9 := q_snd_01 σ (cl x); omega) (fun c_7 => ?_) (fun c_7 => ?_)
    · refine lv_lconst (v := 0) hx hb dL_isSound_14 (by decide +kernel) ?_
      refine va_last hx hb hKL hP hD hS 0 0 rfl rfl (vp_in_nI (by decide) (by decide)) dL_isSound_15 (fun H locs hP hD hS => ?_)
      have hP : va_P dD vwCl (xoW cI cR cS cL x0 b o0 (σ, ra, sb, hd, ol, vp_updL out (nI 0).toNatClampNeg 0)) H := hP
      have hD : va_D A (xoW cI cR cS cL x0 b o0 (σ, ra, sb, hd, ol, vp_updL out (nI 0).toNatClampNeg 0)) := hD
      refine lv_goto (tgt := 22) hx hb dL_isSound_16 (by decide) ?_
      refine lv_iconst (v := nI 0) hx hb dL_isSound_22 (by decide +kernel) ?_
      exact W.iret (v := nI 0) hx hb hr (fun u9 hu9 hW => ⟨⟨nI 0, (σ, ra, sb, hd, ol, vp_updL out (nI 0).toNatClampNeg 0), rfl, ⟨Or.inl ⟨hok, trivial, rfl, rfl, by rw [c_7]; exact (upL0 (f := out)).trans (show (0 : Int64) = (nI 0).toInt64 by decide)⟩, ⟨hI, hX, hJ⟩⟩, by have h9 := hP; rw [← hu9] at h9; exact ⟨h9, hAe ▸ hD⟩⟩, hS.F hu9⟩) hS.2.2 dL_isSound_23
    · refine lv_lconst (v := 1) hx hb dL_isSound_10 (by decide +kernel) ?_
      refine lv_goto (tgt := 15) hx hb dL_isSound_11 (by decide) ?_
      refine va_last hx hb hKL hP hD hS 0 0 rfl rfl (vp_in_nI (by decide) (by decide)) dL_isSound_15 (fun H locs hP hD hS => ?_)
      have hP : va_P dD vwCl (xoW cI cR cS cL x0 b o0 (σ, ra, sb, hd, ol, vp_updL out (nI 0).toNatClampNeg 1)) H := hP
      have hD : va_D A (xoW cI cR cS cL x0 b o0 (σ, ra, sb, hd, ol, vp_updL out (nI 0).toNatClampNeg 1)) := hD
      refine lv_goto (tgt := 22) hx hb dL_isSound_16 (by decide) ?_
      refine lv_iconst (v := nI 0) hx hb dL_isSound_22 (by decide +kernel) ?_
      exact W.iret (v := nI 0) hx hb hr (fun u9 hu9 hW => ⟨⟨nI 0, (σ, ra, sb, hd, ol, vp_updL out (nI 0).toNatClampNeg 1), rfl, ⟨Or.inl ⟨hok, trivial, rfl, rfl, by rw [show q_snd σ (cl x) = 1 from by have h9 := q_snd_01 σ (cl x); omega]; exact (upL0 (f := out)).trans (show (1 : Int64) = (nI 1).toInt64 by decide)⟩, ⟨hI, hX, hJ⟩⟩, by have h9 := hP; rw [← hu9] at h9; exact ⟨h9, hAe ▸ hD⟩⟩, hS.F hu9⟩) hS.2.2 dL_isSound_23

set_option maxHeartbeats 4000000 in
set_option maxRecDepth 100000 in
theorem c_L_pass (l : Launch) (dD : va_G) (cI cR cS : ClassId) (lo : Nat) (cL : ClassId) (hfl : l.stackTraces = false) (sz : Nat) (hlo : lo ≤ sz) (x0 : Nat) (b : Nat → Nat) (o0 : Nat) (ra sb hd ol : Nat → Nat) (σ : St) (out : Nat → Int64) (hI : sI σ) (hX : xI σ hd ol) (hJ : xJ σ hd ol) (t : Int32) : Met l yL_pass wsL_pass ({ frames := 8, cells := 2, slots := 12, locals := 125 }) (lPc dD cI cR cS cL lo [.ref x0, .int t, .ref o0] (fun H => H.size = sz ∧ va_P dD vwCl (xoW cI cR cS cL x0 b o0 (σ, ra, sb, hd, ol, out)) H ∧ va_D (fun q => lo ≤ q) (xoW cI cR cS cL x0 b o0 (σ, ra, sb, hd, ol, out)))) (va_Qi (fun (r : Int32) (u : XU) => R3X (rg t 1 10000) (s_now σ + cl t ≤ 10000) σ (g_pass σ (cl t)) (nI (s_now σ + cl t)) r u) (fun u t => va_P dD vwCl (xoW cI cR cS cL x0 b o0 u) t.heap ∧ va_D (va_A (xoW cI cR cS cL x0 b o0 (σ, ra, sb, hd, ol, out)) sz) (xoW cI cR cS cL x0 b o0 u)) (va_A (xoW cI cR cS cL x0 b o0 (σ, ra, sb, hd, ol, out)) sz)) 2 12 (va_A (xoW cI cR cS cL x0 b o0 (σ, ra, sb, hd, ol, out)) sz) := by
  refine Met.ofWH (cc := cL_pass) (maxL := 4) (ret := (some .int)) (by decide) rfl ?_
  intro p e_ s m args below meth c s₁ B hml hv
  obtain ⟨rfl, hE, hKL, hsz, hP, hD0⟩ := hv
  have hx := B.exec
  have hb := B.bytes
  have hr := B.returns
  have hts := atoms_spec (ws := wsL_pass) B.pre
  have hown : s.vm.findClass RL = some m.cls := findClass_of_methodNamed B.named
  have hlocks := B.notSynchronized
  have hK := hE.1.1
  subst hsz
  have hD := hD0.self (sz := s.heap.size)
  have hAlo : ∀ q, va_A (xoW cI cR cS cL x0 b o0 (σ, ra, sb, hd, ol, out)) s.heap.size q → lo ≤ q := eA_lo hD0 hlo
  generalize hAe : va_A (xoW cI cR cS cL x0 b o0 (σ, ra, sb, hd, ol, out)) s.heap.size = A at hD hAlo ⊢
  have hA : ∀ q : Nat, s.heap.size ≤ q → A q := fun q h => by rw [← hAe]; exact Or.inr h
  have hS : va_S A s.heap s.heap [] := va_S.rf
  have hP : va_P dD vwCl (xoW cI cR cS cL x0 b o0 (σ, ra, sb, hd, ol, out)) s.heap := hP
  have hl := lv_entry ([.ref x0, .int t, .ref o0]) (n := 4) (Nat.le_of_ble_eq_true rfl)
  rw [lg_entry_eq]
  generalize (lg_sl ([.ref x0, .int t, .ref o0]) ++ List.replicate (4 - (lg_sl ([.ref x0, .int t, .ref o0])).length) Slot.unset).toArray = ls at hl ⊢
  have hl : lv_has ls 4 [(0, .ref x0), (1, .int t), (2, .ref o0)] := hl
  
  refine lv_aload_n hx hb dL_pass_0 rfl (lv_at hl 2 rfl) ?_
  refine lv_iconst (v := nI 0) hx hb dL_pass_1 (by decide +kernel) ?_
  refine lv_aload_n hx hb dL_pass_2 rfl (lv_at hl 0 rfl) ?_
  refine lv_iload_n hx hb dL_pass_3 rfl (lv_at hl 1 rfl) ?_
  have htab : c.exceptionTable.toList = tableOf [(0, 9, 12, 13), (0, 9, 15, 15)] := vx_table (x := yL_pass) B (hts _ List.mem_cons_self)
  have hFc := fr_freeR (w1 := xW cI cR cS x0 b ra sb hd ol σ) (w2 := [(o0, .inl (cL, 1, .inr (.inl out)))]) hD hA
  refine nx_callw (vx_runV (As := [.int t]) (rest := [.int (nI 0), .ref o0]) ⟨hx, hb, hml, hown, hts⟩ (c_X2_pass l dD cI cR cS lo hfl s.heap.size hlo x0 b ra sb hd ol σ hI t) (cwV 1 hts gL_pass_X2_pass rfl rfl rfl (by decide +kernel) ⟨Nat.le_of_ble_eq_true rfl, Nat.le_of_ble_eq_true rfl⟩) (ePreV hE va_S.rf hP (k := 1) rfl rfl ⟨rfl, vP_app2 (w1 := [(o0, .inl (cL, 1, .inr (.inl out)))]) hP, vD_app2 (w1 := [(o0, .inl (cL, 1, .inr (.inl out)))]) hD0⟩) rfl rfl hl.1 rfl (lv_room (Nat.le_of_ble_eq_true rfl)) dL_pass_4 ⟨Nat.le_of_ble_eq_true rfl, Nat.le_of_ble_eq_true rfl⟩) hS (fun q _ h => hFc q h) hFc (fun E ce q9 H1 locs hX9 hz9 hk9 hS hc9 hv9 hf9 => ?_) (fun r_ u_ t_ H1 locs ht_ hvm_ hw_ hB_ hz_ hk_ hS => ?_)
  · have hP := vP_kept hP hk9
    rcases hX9 with ⟨rfl, hX9⟩ | ⟨rfl, hX9, hX8⟩
    · refine vx_catch (name := nIAE) hown [] ⟨0, 9, 12, 13⟩ [⟨0, 9, 15, 15⟩] htab (fun z hz => absurd hz List.not_mem_nil) (by decide) (by decide) (hts (.classLink RL 13 nIAE) (by decide +kernel)) (va_Nw.use rfl (hE.1.2.2.2.2.2.2.2.1 (.castable nIAE nIAE) (by decide +kernel))) hc9 hv9 hf9 ?_
      refine lv_astore_n (lv' := [(3, .ref q9), (0, .ref x0), (1, .int t), (2, .ref o0)]) hx hb dL_pass_12 rfl hl (by decide) rfl (fun ls hl => ?_)
      refine lv_iconst (v := nI 1) hx hb dL_pass_13 (by decide +kernel) ?_
      exact W.iret (v := nI 1) hx hb hr (fun u9 hu9 hW => ⟨⟨nI 1, (σ, ra, sb, hd, ol, out), rfl, ⟨Or.inr (Or.inl ⟨hX9, rfl, rfl⟩), ⟨hI, hX, hJ⟩⟩, by have h9 := hP; rw [← hu9] at h9; exact ⟨h9, hAe ▸ hD⟩⟩, hS.F hu9⟩) hS.2.2 dL_pass_14
    · refine vx_catch (name := nISE) hown [⟨0, 9, 12, 13⟩] ⟨0, 9, 15, 15⟩ [] htab (fun z hz => by rw [List.mem_singleton.mp hz]; exact Or.inr ⟨by decide, nIAE, hts (.classLink RL 13 nIAE) (by decide +kernel), hE.1.2.2.2.2.2.2.2.2⟩) (by decide) (by decide) (hts (.classLink RL 15 nISE) (by decide +kernel)) (va_Nw.use rfl (hE.1.2.2.2.2.2.2.2.1 (.castable nISE nISE) (by decide +kernel))) hc9 hv9 hf9 ?_
      refine lv_astore_n (lv' := [(3, .ref q9), (0, .ref x0), (1, .int t), (2, .ref o0)]) hx hb dL_pass_15 rfl hl (by decide) rfl (fun ls hl => ?_)
      refine lv_iconst (v := nI 2) hx hb dL_pass_16 (by decide +kernel) ?_
      exact W.iret (v := nI 2) hx hb hr (fun u9 hu9 hW => ⟨⟨nI 2, (σ, ra, sb, hd, ol, out), rfl, ⟨Or.inr (Or.inr ⟨hX9, hX8, rfl, rfl⟩), ⟨hI, hX, hJ⟩⟩, by have h9 := hP; rw [← hu9] at h9; exact ⟨h9, hAe ▸ hD⟩⟩, hS.F hu9⟩) hS.2.2 dL_pass_17
  · obtain ⟨⟨ho1, ho2⟩, rfl, rfl⟩ := hw_
    obtain ⟨hP, hD⟩ := fr_joinR (w1 := xW cI cR cS x0 b ra sb hd ol σ) (w1' := (xW cI cR cS x0 b ra sb hd ol (g_pass σ (cl t)))) (w2 := [(o0, .inl (cL, 1, .inr (.inl out)))]) hP hD hA hk_ (by rw [← ht_]; exact hB_) (xD_to (vD_app2 (w1 := [(o0, .inl (cL, 1, .inr (.inl out)))]) hD).self rfl rfl)
    have hP : va_P dD vwCl (xoW cI cR cS cL x0 b o0 ((g_pass σ (cl t)), ra, sb, hd, ol, out)) H1 := hP
    have hD : va_D A (xoW cI cR cS cL x0 b o0 ((g_pass σ (cl t)), ra, sb, hd, ol, out)) := hD
    refine lv_i2l (v := ((nI (s_now σ + cl t))).toInt64) hx hb dL_pass_7 rfl ?_
    refine va_last hx hb hKL hP hD hS 0 0 rfl rfl (vp_in_nI (by decide) (by decide)) dL_pass_8 (fun H locs hP hD hS => ?_)
    have hP : va_P dD vwCl (xoW cI cR cS cL x0 b o0 ((g_pass σ (cl t)), ra, sb, hd, ol, vp_updL out (nI 0).toNatClampNeg ((nI (s_now σ + cl t))).toInt64)) H := hP
    have hD : va_D A (xoW cI cR cS cL x0 b o0 ((g_pass σ (cl t)), ra, sb, hd, ol, vp_updL out (nI 0).toNatClampNeg ((nI (s_now σ + cl t))).toInt64)) := hD
    refine lv_goto (tgt := 18) hx hb dL_pass_9 (by decide) ?_
    refine lv_iconst (v := nI 0) hx hb dL_pass_18 (by decide +kernel) ?_
    exact W.iret (v := nI 0) hx hb hr (fun u9 hu9 hW => ⟨⟨nI 0, ((g_pass σ (cl t)), ra, sb, hd, ol, vp_updL out (nI 0).toNatClampNeg ((nI (s_now σ + cl t))).toInt64), rfl, ⟨Or.inl ⟨ho1, ho2, rfl, rfl, upL0 (f := out)⟩, ⟨sI_pass hI ho2, xI_same (σ := σ) rfl rfl rfl hX, xJ_same (σ := σ) rfl rfl hJ⟩⟩, by have h9 := hP; rw [← hu9] at h9; exact ⟨h9, hAe ▸ hD⟩⟩, hS.F hu9⟩) hS.2.2 dL_pass_19

set_option maxHeartbeats 4000000 in
set_option maxRecDepth 100000 in
theorem c_L_setLifetime (l : Launch) (dD : va_G) (cI cR cS : ClassId) (lo : Nat) (cL : ClassId) (hfl : l.stackTraces = false) (sz : Nat) (hlo : lo ≤ sz) (x0 : Nat) (b : Nat → Nat) (o0 : Nat) (ra sb hd ol : Nat → Nat) (σ : St) (out : Nat → Int64) (hI : sI σ) (hX : xI σ hd ol) (hJ : xJ σ hd ol) (f t : Int32) : Met l yL_setLifetime wsL_setLifetime ({ frames := 8, cells := 2, slots := 12, locals := 127 }) (lPc dD cI cR cS cL lo [.ref x0, .int f, .int t, .ref o0] (fun H => H.size = sz ∧ va_P dD vwCl (xoW cI cR cS cL x0 b o0 (σ, ra, sb, hd, ol, out)) H ∧ va_D (fun q => lo ≤ q) (xoW cI cR cS cL x0 b o0 (σ, ra, sb, hd, ol, out)))) (va_Qi (fun (r : Int32) (u : XU) => R3X (rg f 0 5 ∧ rg t 0 10000) (True) σ (g_setL σ (cl f) (cl t)) (nI (s_lt σ (cl f))) r u) (fun u t => va_P dD vwCl (xoW cI cR cS cL x0 b o0 u) t.heap ∧ va_D (va_A (xoW cI cR cS cL x0 b o0 (σ, ra, sb, hd, ol, out)) sz) (xoW cI cR cS cL x0 b o0 u)) (va_A (xoW cI cR cS cL x0 b o0 (σ, ra, sb, hd, ol, out)) sz)) 2 12 (va_A (xoW cI cR cS cL x0 b o0 (σ, ra, sb, hd, ol, out)) sz) := by
  refine Met.ofWH (cc := cL_setLifetime) (maxL := 5) (ret := (some .int)) (by decide) rfl ?_
  intro p e_ s m args below meth c s₁ B hml hv
  obtain ⟨rfl, hE, hKL, hsz, hP, hD0⟩ := hv
  have hx := B.exec
  have hb := B.bytes
  have hr := B.returns
  have hts := atoms_spec (ws := wsL_setLifetime) B.pre
  have hown : s.vm.findClass RL = some m.cls := findClass_of_methodNamed B.named
  have hlocks := B.notSynchronized
  have hK := hE.1.1
  subst hsz
  have hD := hD0.self (sz := s.heap.size)
  have hAlo : ∀ q, va_A (xoW cI cR cS cL x0 b o0 (σ, ra, sb, hd, ol, out)) s.heap.size q → lo ≤ q := eA_lo hD0 hlo
  generalize hAe : va_A (xoW cI cR cS cL x0 b o0 (σ, ra, sb, hd, ol, out)) s.heap.size = A at hD hAlo ⊢
  have hA : ∀ q : Nat, s.heap.size ≤ q → A q := fun q h => by rw [← hAe]; exact Or.inr h
  have hS : va_S A s.heap s.heap [] := va_S.rf
  have hP : va_P dD vwCl (xoW cI cR cS cL x0 b o0 (σ, ra, sb, hd, ol, out)) s.heap := hP
  have hl := lv_entry ([.ref x0, .int f, .int t, .ref o0]) (n := 5) (Nat.le_of_ble_eq_true rfl)
  rw [lg_entry_eq]
  generalize (lg_sl ([.ref x0, .int f, .int t, .ref o0]) ++ List.replicate (5 - (lg_sl ([.ref x0, .int f, .int t, .ref o0])).length) Slot.unset).toArray = ls at hl ⊢
  have hl : lv_has ls 5 [(0, .ref x0), (1, .int f), (2, .int t), (3, .ref o0)] := hl
  
  refine lv_aload_n hx hb dL_setLifetime_0 rfl (lv_at hl 3 rfl) ?_
  refine lv_iconst (v := nI 0) hx hb dL_setLifetime_1 (by decide +kernel) ?_
  refine lv_aload_n hx hb dL_setLifetime_2 rfl (lv_at hl 0 rfl) ?_
  refine lv_iload_n hx hb dL_setLifetime_3 rfl (lv_at hl 1 rfl) ?_
  refine lv_iload_n hx hb dL_setLifetime_4 rfl (lv_at hl 2 rfl) ?_
  have htab : c.exceptionTable.toList = tableOf [(0, 10, 13, 13)] := vx_table (x := yL_setLifetime) B (hts _ List.mem_cons_self)
  have hFc := fr_freeR (w1 := xW cI cR cS x0 b ra sb hd ol σ) (w2 := [(o0, .inl (cL, 1, .inr (.inl out)))]) hD hA
  refine nx_callw (vx_runV (As := [.int f, .int t]) (rest := [.int (nI 0), .ref o0]) ⟨hx, hb, hml, hown, hts⟩ (c_X2_setLifetime l dD cI cR cS lo hfl s.heap.size hlo x0 b ra sb hd ol σ hI f t) (cwV 2 hts gL_setLifetime_X2_setLifetime rfl rfl rfl (by decide +kernel) ⟨Nat.le_of_ble_eq_true rfl, Nat.le_of_ble_eq_true rfl⟩) (ePreV hE va_S.rf hP (k := 1) rfl rfl ⟨rfl, vP_app2 (w1 := [(o0, .inl (cL, 1, .inr (.inl out)))]) hP, vD_app2 (w1 := [(o0, .inl (cL, 1, .inr (.inl out)))]) hD0⟩) rfl rfl hl.1 rfl (lv_room (Nat.le_of_ble_eq_true rfl)) dL_setLifetime_5 ⟨Nat.le_of_ble_eq_true rfl, Nat.le_of_ble_eq_true rfl⟩) hS (fun q _ h => hFc q h) hFc (fun E ce q9 H1 locs hX9 hz9 hk9 hS hc9 hv9 hf9 => ?_) (fun r_ u_ t_ H1 locs ht_ hvm_ hw_ hB_ hz_ hk_ hS => ?_)
  · have hP := vP_kept hP hk9
    obtain ⟨rfl, hX9⟩ := hX9
    refine vx_catch (name := nIAE) hown [] ⟨0, 10, 13, 13⟩ [] htab (fun z hz => absurd hz List.not_mem_nil) (by decide) (by decide) (hts (.classLink RL 13 nIAE) (by decide +kernel)) (va_Nw.use rfl (hE.1.2.2.2.2.2.2.2.1 (.castable nIAE nIAE) (by decide +kernel))) hc9 hv9 hf9 ?_
    refine lv_astore (lv' := [(4, .ref q9), (0, .ref x0), (1, .int f), (2, .int t), (3, .ref o0)]) hx hb dL_setLifetime_13 hl (by decide) rfl (fun ls hl => ?_)
    refine lv_iconst (v := nI 1) hx hb dL_setLifetime_15 (by decide +kernel) ?_
    exact W.iret (v := nI 1) hx hb hr (fun u9 hu9 hW => ⟨⟨nI 1, (σ, ra, sb, hd, ol, out), rfl, ⟨Or.inr (Or.inl ⟨hX9, rfl, rfl⟩), ⟨hI, hX, hJ⟩⟩, by have h9 := hP; rw [← hu9] at h9; exact ⟨h9, hAe ▸ hD⟩⟩, hS.F hu9⟩) hS.2.2 dL_setLifetime_16
  · obtain ⟨ho1, rfl, rfl⟩ := hw_
    obtain ⟨hP, hD⟩ := fr_joinR (w1 := xW cI cR cS x0 b ra sb hd ol σ) (w1' := (xW cI cR cS x0 b ra sb hd ol (g_setL σ (cl f) (cl t)))) (w2 := [(o0, .inl (cL, 1, .inr (.inl out)))]) hP hD hA hk_ (by rw [← ht_]; exact hB_) (xD_to (vD_app2 (w1 := [(o0, .inl (cL, 1, .inr (.inl out)))]) hD).self rfl rfl)
    have hP : va_P dD vwCl (xoW cI cR cS cL x0 b o0 ((g_setL σ (cl f) (cl t)), ra, sb, hd, ol, out)) H1 := hP
    have hD : va_D A (xoW cI cR cS cL x0 b o0 ((g_setL σ (cl f) (cl t)), ra, sb, hd, ol, out)) := hD
    refine lv_i2l (v := ((nI (s_lt σ (cl f)))).toInt64) hx hb dL_setLifetime_8 rfl ?_
    refine va_last hx hb hKL hP hD hS 0 0 rfl rfl (vp_in_nI (by decide) (by decide)) dL_setLifetime_9 (fun H locs hP hD hS => ?_)
    have hP : va_P dD vwCl (xoW cI cR cS cL x0 b o0 ((g_setL σ (cl f) (cl t)), ra, sb, hd, ol, vp_updL out (nI 0).toNatClampNeg ((nI (s_lt σ (cl f)))).toInt64)) H := hP
    have hD : va_D A (xoW cI cR cS cL x0 b o0 ((g_setL σ (cl f) (cl t)), ra, sb, hd, ol, vp_updL out (nI 0).toNatClampNeg ((nI (s_lt σ (cl f)))).toInt64)) := hD
    refine lv_goto (tgt := 17) hx hb dL_setLifetime_10 (by decide) ?_
    refine lv_iconst (v := nI 0) hx hb dL_setLifetime_17 (by decide +kernel) ?_
    exact W.iret (v := nI 0) hx hb hr (fun u9 hu9 hW => ⟨⟨nI 0, ((g_setL σ (cl f) (cl t)), ra, sb, hd, ol, vp_updL out (nI 0).toNatClampNeg ((nI (s_lt σ (cl f)))).toInt64), rfl, ⟨Or.inl ⟨ho1, trivial, rfl, rfl, upL0 (f := out)⟩, ⟨sI_setL hI (rg_cl (by decide) (by decide) ho1.2).2, xI_same (σ := σ) rfl rfl rfl hX, xJ_same (σ := σ) rfl rfl hJ⟩⟩, by have h9 := hP; rw [← hu9] at h9; exact ⟨h9, hAe ▸ hD⟩⟩, hS.F hu9⟩) hS.2.2 dL_setLifetime_18

set_option maxHeartbeats 4000000 in
set_option maxRecDepth 100000 in
theorem c_L_take (l : Launch) (dD : va_G) (cI cR cS : ClassId) (lo : Nat) (cL : ClassId) (hfl : l.stackTraces = false) (sz : Nat) (hlo : lo ≤ sz) (x0 : Nat) (b : Nat → Nat) (o0 : Nat) (ra sb hd ol : Nat → Nat) (σ : St) (out : Nat → Int64) (hI : sI σ) (hX : xI σ hd ol) (hJ : xJ σ hd ol) (x : Int32) : Met l yL_take wsL_take ({ frames := 8, cells := 1, slots := 6, locals := 127 }) (lPc dD cI cR cS cL lo [.ref x0, .int x, .ref o0] (fun H => H.size = sz ∧ va_P dD vwCl (xoW cI cR cS cL x0 b o0 (σ, ra, sb, hd, ol, out)) H ∧ va_D (fun q => lo ≤ q) (xoW cI cR cS cL x0 b o0 (σ, ra, sb, hd, ol, out)))) (va_Qi (fun (r : Int32) (u : XU) => R3X (rg x 1 200) (True) σ (q_take σ (g_m σ (cl x))) (nI (g_m σ (cl x))) r u) (fun u t => va_P dD vwCl (xoW cI cR cS cL x0 b o0 u) t.heap ∧ va_D (va_A (xoW cI cR cS cL x0 b o0 (σ, ra, sb, hd, ol, out)) sz) (xoW cI cR cS cL x0 b o0 u)) (va_A (xoW cI cR cS cL x0 b o0 (σ, ra, sb, hd, ol, out)) sz)) 1 6 (va_A (xoW cI cR cS cL x0 b o0 (σ, ra, sb, hd, ol, out)) sz) := by
  refine Met.ofWH (cc := cL_take) (maxL := 4) (ret := (some .int)) (by decide) rfl ?_
  intro p e_ s m args below meth c s₁ B hml hv
  obtain ⟨rfl, hE, hKL, hsz, hP, hD0⟩ := hv
  have hx := B.exec
  have hb := B.bytes
  have hr := B.returns
  have hts := atoms_spec (ws := wsL_take) B.pre
  have hown : s.vm.findClass RL = some m.cls := findClass_of_methodNamed B.named
  have hlocks := B.notSynchronized
  have hK := hE.1.1
  subst hsz
  have hD := hD0.self (sz := s.heap.size)
  have hAlo : ∀ q, va_A (xoW cI cR cS cL x0 b o0 (σ, ra, sb, hd, ol, out)) s.heap.size q → lo ≤ q := eA_lo hD0 hlo
  generalize hAe : va_A (xoW cI cR cS cL x0 b o0 (σ, ra, sb, hd, ol, out)) s.heap.size = A at hD hAlo ⊢
  have hA : ∀ q : Nat, s.heap.size ≤ q → A q := fun q h => by rw [← hAe]; exact Or.inr h
  have hS : va_S A s.heap s.heap [] := va_S.rf
  have hP : va_P dD vwCl (xoW cI cR cS cL x0 b o0 (σ, ra, sb, hd, ol, out)) s.heap := hP
  have hl := lv_entry ([.ref x0, .int x, .ref o0]) (n := 4) (Nat.le_of_ble_eq_true rfl)
  rw [lg_entry_eq]
  generalize (lg_sl ([.ref x0, .int x, .ref o0]) ++ List.replicate (4 - (lg_sl ([.ref x0, .int x, .ref o0])).length) Slot.unset).toArray = ls at hl ⊢
  have hl : lv_has ls 4 [(0, .ref x0), (1, .int x), (2, .ref o0)] := hl
  
  refine lv_aload_n hx hb dL_take_0 rfl (lv_at hl 2 rfl) ?_
  refine lv_iconst (v := nI 0) hx hb dL_take_1 (by decide +kernel) ?_
  refine lv_aload_n hx hb dL_take_2 rfl (lv_at hl 0 rfl) ?_
  refine lv_iload_n hx hb dL_take_3 rfl (lv_at hl 1 rfl) ?_
  have htab : c.exceptionTable.toList = tableOf [(0, 9, 12, 13)] := vx_table (x := yL_take) B (hts _ List.mem_cons_self)
  have hFc := fr_freeR (w1 := xW cI cR cS x0 b ra sb hd ol σ) (w2 := [(o0, .inl (cL, 1, .inr (.inl out)))]) hD hA
  refine nx_callw (vx_runV (As := [.int x]) (rest := [.int (nI 0), .ref o0]) ⟨hx, hb, hml, hown, hts⟩ (c_X2_take l dD cI cR cS lo hfl s.heap.size hlo x0 b ra sb hd ol σ hI x) (cwV 1 hts gL_take_X2_take rfl rfl rfl (by decide +kernel) ⟨Nat.le_of_ble_eq_true rfl, Nat.le_of_ble_eq_true rfl⟩) (ePreV hE va_S.rf hP (k := 1) rfl rfl ⟨rfl, vP_app2 (w1 := [(o0, .inl (cL, 1, .inr (.inl out)))]) hP, vD_app2 (w1 := [(o0, .inl (cL, 1, .inr (.inl out)))]) hD0⟩) rfl rfl hl.1 rfl (lv_room (Nat.le_of_ble_eq_true rfl)) dL_take_4 ⟨Nat.le_of_ble_eq_true rfl, Nat.le_of_ble_eq_true rfl⟩) hS (fun q _ h => hFc q h) hFc (fun E ce q9 H1 locs hX9 hz9 hk9 hS hc9 hv9 hf9 => ?_) (fun r_ u_ t_ H1 locs ht_ hvm_ hw_ hB_ hz_ hk_ hS => ?_)
  · have hP := vP_kept hP hk9
    obtain ⟨rfl, hX9⟩ := hX9
    refine vx_catch (name := nIAE) hown [] ⟨0, 9, 12, 13⟩ [] htab (fun z hz => absurd hz List.not_mem_nil) (by decide) (by decide) (hts (.classLink RL 13 nIAE) (by decide +kernel)) (va_Nw.use rfl (hE.1.2.2.2.2.2.2.2.1 (.castable nIAE nIAE) (by decide +kernel))) hc9 hv9 hf9 ?_
    refine lv_astore_n (lv' := [(3, .ref q9), (0, .ref x0), (1, .int x), (2, .ref o0)]) hx hb dL_take_12 rfl hl (by decide) rfl (fun ls hl => ?_)
    refine lv_iconst (v := nI 1) hx hb dL_take_13 (by decide +kernel) ?_
    exact W.iret (v := nI 1) hx hb hr (fun u9 hu9 hW => ⟨⟨nI 1, (σ, ra, sb, hd, ol, out), rfl, ⟨Or.inr (Or.inl ⟨hX9, rfl, rfl⟩), ⟨hI, hX, hJ⟩⟩, by have h9 := hP; rw [← hu9] at h9; exact ⟨h9, hAe ▸ hD⟩⟩, hS.F hu9⟩) hS.2.2 dL_take_14
  · obtain ⟨ho1, rfl, rfl⟩ := hw_
    obtain ⟨hP, hD⟩ := fr_joinR (w1 := xW cI cR cS x0 b ra sb hd ol σ) (w1' := (xW cI cR cS x0 b ra sb hd ol (q_take σ (g_m σ (cl x))))) (w2 := [(o0, .inl (cL, 1, .inr (.inl out)))]) hP hD hA hk_ (by rw [← ht_]; exact hB_) (xD_to (vD_app2 (w1 := [(o0, .inl (cL, 1, .inr (.inl out)))]) hD).self (qt_n σ _) (qt_kk σ _))
    have hP : va_P dD vwCl (xoW cI cR cS cL x0 b o0 ((q_take σ (g_m σ (cl x))), ra, sb, hd, ol, out)) H1 := hP
    have hD : va_D A (xoW cI cR cS cL x0 b o0 ((q_take σ (g_m σ (cl x))), ra, sb, hd, ol, out)) := hD
    refine lv_i2l (v := ((nI (g_m σ (cl x)))).toInt64) hx hb dL_take_7 rfl ?_
    refine va_last hx hb hKL hP hD hS 0 0 rfl rfl (vp_in_nI (by decide) (by decide)) dL_take_8 (fun H locs hP hD hS => ?_)
    have hP : va_P dD vwCl (xoW cI cR cS cL x0 b o0 ((q_take σ (g_m σ (cl x))), ra, sb, hd, ol, vp_updL out (nI 0).toNatClampNeg ((nI (g_m σ (cl x)))).toInt64)) H := hP
    have hD : va_D A (xoW cI cR cS cL x0 b o0 ((q_take σ (g_m σ (cl x))), ra, sb, hd, ol, vp_updL out (nI 0).toNatClampNeg ((nI (g_m σ (cl x)))).toInt64)) := hD
    refine lv_goto (tgt := 15) hx hb dL_take_9 (by decide) ?_
    refine lv_iconst (v := nI 0) hx hb dL_take_15 (by decide +kernel) ?_
    exact W.iret (v := nI 0) hx hb hr (fun u9 hu9 hW => ⟨⟨nI 0, ((q_take σ (g_m σ (cl x))), ra, sb, hd, ol, vp_updL out (nI 0).toNatClampNeg ((nI (g_m σ (cl x)))).toInt64), rfl, ⟨Or.inl ⟨ho1, trivial, rfl, rfl, upL0 (f := out)⟩, ⟨(qt_all hI hJ _ (by unfold g_m; omega)).1, xI_same (qt_n σ _) (qt_pr σ _) (qt_ev σ _) hX, (qt_all hI hJ _ (by unfold g_m; omega)).2⟩⟩, by have h9 := hP; rw [← hu9] at h9; exact ⟨h9, hAe ▸ hD⟩⟩, hS.F hu9⟩) hS.2.2 dL_take_16

set_option maxHeartbeats 4000000 in
set_option maxRecDepth 100000 in
theorem c_L_arrive (l : Launch) (dD : va_G) (cI cR cS : ClassId) (lo : Nat) (cL : ClassId) (hfl : l.stackTraces = false) (sz : Nat) (hlo : lo ≤ sz) (x0 : Nat) (b : Nat → Nat) (o0 : Nat) (ra sb hd ol : Nat → Nat) (σ : St) (out : Nat → Int64) (hI : sI σ) (hX : xI σ hd ol) (hJ : xJ σ hd ol) (f e v y : Int32) : Met l yL_arrive wsL_arrive ({ frames := 9, cells := 5, slots := 31, locals := 150 }) (lPc dD cI cR cS cL lo [.ref x0, .int f, .int e, .int v, .int y, .ref o0] (fun H => H.size = sz ∧ va_P dD vwCl (xoW cI cR cS cL x0 b o0 (σ, ra, sb, hd, ol, out)) H ∧ va_D (fun q => lo ≤ q) (xoW cI cR cS cL x0 b o0 (σ, ra, sb, hd, ol, out)))) (va_Qi (fun (r : Int32) (u : XU) => R3X (okP f e ∧ rg v 0 (s_now σ) ∧ rg y 0 100000) (s_n σ < 200) σ (g_arrive σ (plN f e) (cl v) (cl y)) (nI (s_n σ)) r u) (fun u t => va_P dD vwCl (xoW cI cR cS cL x0 b o0 u) t.heap ∧ va_D (va_A (xoW cI cR cS cL x0 b o0 (σ, ra, sb, hd, ol, out)) sz) (xoW cI cR cS cL x0 b o0 u)) (va_A (xoW cI cR cS cL x0 b o0 (σ, ra, sb, hd, ol, out)) sz)) 5 31 (va_A (xoW cI cR cS cL x0 b o0 (σ, ra, sb, hd, ol, out)) sz) := by
  refine Met.ofWH (cc := cL_arrive) (maxL := 7) (ret := (some .int)) (by decide) rfl ?_
  intro p e_ s m args below meth c s₁ B hml hv
  obtain ⟨rfl, hE, hKL, hsz, hP, hD0⟩ := hv
  have hx := B.exec
  have hb := B.bytes
  have hr := B.returns
  have hts := atoms_spec (ws := wsL_arrive) B.pre
  have hown : s.vm.findClass RL = some m.cls := findClass_of_methodNamed B.named
  have hlocks := B.notSynchronized
  have hK := hE.1.1
  subst hsz
  have hD := hD0.self (sz := s.heap.size)
  have hAlo : ∀ q, va_A (xoW cI cR cS cL x0 b o0 (σ, ra, sb, hd, ol, out)) s.heap.size q → lo ≤ q := eA_lo hD0 hlo
  generalize hAe : va_A (xoW cI cR cS cL x0 b o0 (σ, ra, sb, hd, ol, out)) s.heap.size = A at hD hAlo ⊢
  have hA : ∀ q : Nat, s.heap.size ≤ q → A q := fun q h => by rw [← hAe]; exact Or.inr h
  have hS : va_S A s.heap s.heap [] := va_S.rf
  have hP : va_P dD vwCl (xoW cI cR cS cL x0 b o0 (σ, ra, sb, hd, ol, out)) s.heap := hP
  have hl := lv_entry ([.ref x0, .int f, .int e, .int v, .int y, .ref o0]) (n := 7) (Nat.le_of_ble_eq_true rfl)
  rw [lg_entry_eq]
  generalize (lg_sl ([.ref x0, .int f, .int e, .int v, .int y, .ref o0]) ++ List.replicate (7 - (lg_sl ([.ref x0, .int f, .int e, .int v, .int y, .ref o0])).length) Slot.unset).toArray = ls at hl ⊢
  have hl : lv_has ls 7 [(0, .ref x0), (1, .int f), (2, .int e), (3, .int v), (4, .int y), (5, .ref o0)] := hl
  
  refine lv_aload hx hb dL_arrive_0 (lv_at hl 5 rfl) ?_
  refine lv_iconst (v := nI 0) hx hb dL_arrive_2 (by decide +kernel) ?_
  refine lv_aload_n hx hb dL_arrive_3 rfl (lv_at hl 0 rfl) ?_
  refine lv_iload_n hx hb dL_arrive_4 rfl (lv_at hl 1 rfl) ?_
  refine lv_iload_n hx hb dL_arrive_5 rfl (lv_at hl 2 rfl) ?_
  refine lv_iload_n hx hb dL_arrive_6 rfl (lv_at hl 3 rfl) ?_
  refine lv_iload hx hb dL_arrive_7 (lv_at hl 4 rfl) ?_
  have htab : c.exceptionTable.toList = tableOf [(0, 14, 17, 13), (0, 14, 21, 15)] := vx_table (x := yL_arrive) B (hts _ List.mem_cons_self)
  have hFc := fr_freeR (w1 := xW cI cR cS x0 b ra sb hd ol σ) (w2 := [(o0, .inl (cL, 1, .inr (.inl out)))]) hD hA
  refine nx_callw (vx_runV (As := [.int f, .int e, .int v, .int y]) (rest := [.int (nI 0), .ref o0]) ⟨hx, hb, hml, hown, hts⟩ (c_X2_arrive l dD cI cR cS lo hfl s.heap.size hlo x0 b ra sb hd ol σ hI hX hJ f e v y) (cwV 4 hts gL_arrive_X2_arrive rfl rfl rfl (by decide +kernel) ⟨Nat.le_of_ble_eq_true rfl, Nat.le_of_ble_eq_true rfl⟩) (ePreV hE va_S.rf hP (k := 1) rfl rfl ⟨rfl, vP_app2 (w1 := [(o0, .inl (cL, 1, .inr (.inl out)))]) hP, vD_app2 (w1 := [(o0, .inl (cL, 1, .inr (.inl out)))]) hD0⟩) rfl rfl hl.1 rfl (lv_room (Nat.le_of_ble_eq_true rfl)) dL_arrive_9 ⟨Nat.le_of_ble_eq_true rfl, Nat.le_of_ble_eq_true rfl⟩) hS (fun q _ h => hFc q h) hFc (fun E ce q9 H1 locs hX9 hz9 hk9 hS hc9 hv9 hf9 => ?_) (fun r_ u_ t_ H1 locs ht_ hvm_ hw_ hB_ hz_ hk_ hS => ?_)
  · have hP := vP_kept hP hk9
    rcases hX9 with ⟨rfl, hX9⟩ | ⟨rfl, hX9, hX8⟩
    · refine vx_catch (name := nIAE) hown [] ⟨0, 14, 17, 13⟩ [⟨0, 14, 21, 15⟩] htab (fun z hz => absurd hz List.not_mem_nil) (by decide) (by decide) (hts (.classLink RL 13 nIAE) (by decide +kernel)) (va_Nw.use rfl (hE.1.2.2.2.2.2.2.2.1 (.castable nIAE nIAE) (by decide +kernel))) hc9 hv9 hf9 ?_
      refine lv_astore (lv' := [(6, .ref q9), (0, .ref x0), (1, .int f), (2, .int e), (3, .int v), (4, .int y), (5, .ref o0)]) hx hb dL_arrive_17 hl (by decide) rfl (fun ls hl => ?_)
      refine lv_iconst (v := nI 1) hx hb dL_arrive_19 (by decide +kernel) ?_
      exact W.iret (v := nI 1) hx hb hr (fun u9 hu9 hW => ⟨⟨nI 1, (σ, ra, sb, hd, ol, out), rfl, ⟨Or.inr (Or.inl ⟨hX9, rfl, rfl⟩), ⟨hI, hX, hJ⟩⟩, by have h9 := hP; rw [← hu9] at h9; exact ⟨h9, hAe ▸ hD⟩⟩, hS.F hu9⟩) hS.2.2 dL_arrive_20
    · refine vx_catch (name := nISE) hown [⟨0, 14, 17, 13⟩] ⟨0, 14, 21, 15⟩ [] htab (fun z hz => by rw [List.mem_singleton.mp hz]; exact Or.inr ⟨by decide, nIAE, hts (.classLink RL 13 nIAE) (by decide +kernel), hE.1.2.2.2.2.2.2.2.2⟩) (by decide) (by decide) (hts (.classLink RL 15 nISE) (by decide +kernel)) (va_Nw.use rfl (hE.1.2.2.2.2.2.2.2.1 (.castable nISE nISE) (by decide +kernel))) hc9 hv9 hf9 ?_
      refine lv_astore (lv' := [(6, .ref q9), (0, .ref x0), (1, .int f), (2, .int e), (3, .int v), (4, .int y), (5, .ref o0)]) hx hb dL_arrive_21 hl (by decide) rfl (fun ls hl => ?_)
      refine lv_iconst (v := nI 2) hx hb dL_arrive_23 (by decide +kernel) ?_
      exact W.iret (v := nI 2) hx hb hr (fun u9 hu9 hW => ⟨⟨nI 2, (σ, ra, sb, hd, ol, out), rfl, ⟨Or.inr (Or.inr ⟨hX9, hX8, rfl, rfl⟩), ⟨hI, hX, hJ⟩⟩, by have h9 := hP; rw [← hu9] at h9; exact ⟨h9, hAe ▸ hD⟩⟩, hS.F hu9⟩) hS.2.2 dL_arrive_24
  · obtain ⟨σ', ra', hd', ol'⟩ := u_
    obtain ⟨⟨ho1, ho2⟩, h1_, h2_, h3_, rfl⟩ := hw_
    have h1_ : σ' = g_arrive σ (plN f e) (cl v) (cl y) := h1_
    subst h1_
    obtain ⟨hP, hD⟩ := fr_joinR (w1 := xW cI cR cS x0 b ra sb hd ol σ) (w1' := (xW cI cR cS x0 b ra' sb hd' ol' (g_arrive σ (plN f e) (cl v) (cl y)))) (w2 := [(o0, .inl (cL, 1, .inr (.inl out)))]) hP hD hA hk_ (by rw [← ht_]; exact hB_.1) (hB_.2)
    have hP : va_P dD vwCl (xoW cI cR cS cL x0 b o0 ((g_arrive σ (plN f e) (cl v) (cl y)), ra', sb, hd', ol', out)) H1 := hP
    have hD : va_D A (xoW cI cR cS cL x0 b o0 ((g_arrive σ (plN f e) (cl v) (cl y)), ra', sb, hd', ol', out)) := hD
    refine lv_i2l (v := ((nI (s_n σ))).toInt64) hx hb dL_arrive_12 rfl ?_
    refine va_last hx hb hKL hP hD hS 0 0 rfl rfl (vp_in_nI (by decide) (by decide)) dL_arrive_13 (fun H locs hP hD hS => ?_)
    have hP : va_P dD vwCl (xoW cI cR cS cL x0 b o0 ((g_arrive σ (plN f e) (cl v) (cl y)), ra', sb, hd', ol', vp_updL out (nI 0).toNatClampNeg ((nI (s_n σ))).toInt64)) H := hP
    have hD : va_D A (xoW cI cR cS cL x0 b o0 ((g_arrive σ (plN f e) (cl v) (cl y)), ra', sb, hd', ol', vp_updL out (nI 0).toNatClampNeg ((nI (s_n σ))).toInt64)) := hD
    refine lv_goto (tgt := 25) hx hb dL_arrive_14 (by decide) ?_
    refine lv_iconst (v := nI 0) hx hb dL_arrive_25 (by decide +kernel) ?_
    exact W.iret (v := nI 0) hx hb hr (fun u9 hu9 hW => ⟨⟨nI 0, ((g_arrive σ (plN f e) (cl v) (cl y)), ra', sb, hd', ol', vp_updL out (nI 0).toNatClampNeg ((nI (s_n σ))).toInt64), rfl, ⟨Or.inl ⟨ho1, ho2, rfl, rfl, upL0 (f := out)⟩, ⟨sI_arrive hI ho2 (okP_pl ho1.1) (rg_cl (by decide) (by have := hI.1; omega) ho1.2.1).2 (rg_cl (by decide) (by decide) ho1.2.2).2, h2_, h3_⟩⟩, by have h9 := hP; rw [← hu9] at h9; exact ⟨h9, hAe ▸ hD⟩⟩, hS.F hu9⟩) hS.2.2 dL_arrive_26

set_option maxHeartbeats 4000000 in
set_option maxRecDepth 100000 in
theorem c_L_serve (l : Launch) (dD : va_G) (cI cR cS : ClassId) (lo : Nat) (cL : ClassId) (hfl : l.stackTraces = false) (sz : Nat) (hlo : lo ≤ sz) (x0 : Nat) (b : Nat → Nat) (o0 : Nat) (ra sb hd ol : Nat → Nat) (σ : St) (out : Nat → Int64) (hI : sI σ) (hX : xI σ hd ol) (hJ : xJ σ hd ol) (f e : Int32) : Met l yL_serve wsL_serve ({ frames := 9, cells := 3, slots := 18, locals := 148 }) (lPc dD cI cR cS cL lo [.ref x0, .int f, .int e, .ref o0] (fun H => H.size = sz ∧ va_P dD vwCl (xoW cI cR cS cL x0 b o0 (σ, ra, sb, hd, ol, out)) H ∧ va_D (fun q => lo ≤ q) (xoW cI cR cS cL x0 b o0 (σ, ra, sb, hd, ol, out)))) (va_Qi (fun (r : Int32) (u : XU) => R3X (okP f e) (s_k σ < 200) σ (g_serve σ (plN f e)) (eN (q_fr σ (s_cp σ (plN f e)) (s_now σ))) r u) (fun u t => va_P dD vwCl (xoW cI cR cS cL x0 b o0 u) t.heap ∧ va_D (va_A (xoW cI cR cS cL x0 b o0 (σ, ra, sb, hd, ol, out)) sz) (xoW cI cR cS cL x0 b o0 u)) (va_A (xoW cI cR cS cL x0 b o0 (σ, ra, sb, hd, ol, out)) sz)) 3 18 (va_A (xoW cI cR cS cL x0 b o0 (σ, ra, sb, hd, ol, out)) sz) := by
  refine Met.ofWH (cc := cL_serve) (maxL := 5) (ret := (some .int)) (by decide) rfl ?_
  intro p e_ s m args below meth c s₁ B hml hv
  obtain ⟨rfl, hE, hKL, hsz, hP, hD0⟩ := hv
  have hx := B.exec
  have hb := B.bytes
  have hr := B.returns
  have hts := atoms_spec (ws := wsL_serve) B.pre
  have hown : s.vm.findClass RL = some m.cls := findClass_of_methodNamed B.named
  have hlocks := B.notSynchronized
  have hK := hE.1.1
  subst hsz
  have hD := hD0.self (sz := s.heap.size)
  have hAlo : ∀ q, va_A (xoW cI cR cS cL x0 b o0 (σ, ra, sb, hd, ol, out)) s.heap.size q → lo ≤ q := eA_lo hD0 hlo
  generalize hAe : va_A (xoW cI cR cS cL x0 b o0 (σ, ra, sb, hd, ol, out)) s.heap.size = A at hD hAlo ⊢
  have hA : ∀ q : Nat, s.heap.size ≤ q → A q := fun q h => by rw [← hAe]; exact Or.inr h
  have hS : va_S A s.heap s.heap [] := va_S.rf
  have hP : va_P dD vwCl (xoW cI cR cS cL x0 b o0 (σ, ra, sb, hd, ol, out)) s.heap := hP
  have hl := lv_entry ([.ref x0, .int f, .int e, .ref o0]) (n := 5) (Nat.le_of_ble_eq_true rfl)
  rw [lg_entry_eq]
  generalize (lg_sl ([.ref x0, .int f, .int e, .ref o0]) ++ List.replicate (5 - (lg_sl ([.ref x0, .int f, .int e, .ref o0])).length) Slot.unset).toArray = ls at hl ⊢
  have hl : lv_has ls 5 [(0, .ref x0), (1, .int f), (2, .int e), (3, .ref o0)] := hl
  
  refine lv_aload_n hx hb dL_serve_0 rfl (lv_at hl 3 rfl) ?_
  refine lv_iconst (v := nI 0) hx hb dL_serve_1 (by decide +kernel) ?_
  refine lv_aload_n hx hb dL_serve_2 rfl (lv_at hl 0 rfl) ?_
  refine lv_iload_n hx hb dL_serve_3 rfl (lv_at hl 1 rfl) ?_
  refine lv_iload_n hx hb dL_serve_4 rfl (lv_at hl 2 rfl) ?_
  have htab : c.exceptionTable.toList = tableOf [(0, 10, 13, 13), (0, 10, 17, 15)] := vx_table (x := yL_serve) B (hts _ List.mem_cons_self)
  have hFc := fr_freeR (w1 := xW cI cR cS x0 b ra sb hd ol σ) (w2 := [(o0, .inl (cL, 1, .inr (.inl out)))]) hD hA
  refine nx_callw (vx_runV (As := [.int f, .int e]) (rest := [.int (nI 0), .ref o0]) ⟨hx, hb, hml, hown, hts⟩ (c_X2_serve l dD cI cR cS lo hfl s.heap.size hlo x0 b ra sb hd ol σ hI f e) (cwV 2 hts gL_serve_X2_serve rfl rfl rfl (by decide +kernel) ⟨Nat.le_of_ble_eq_true rfl, Nat.le_of_ble_eq_true rfl⟩) (ePreV hE va_S.rf hP (k := 1) rfl rfl ⟨rfl, vP_app2 (w1 := [(o0, .inl (cL, 1, .inr (.inl out)))]) hP, vD_app2 (w1 := [(o0, .inl (cL, 1, .inr (.inl out)))]) hD0⟩) rfl rfl hl.1 rfl (lv_room (Nat.le_of_ble_eq_true rfl)) dL_serve_5 ⟨Nat.le_of_ble_eq_true rfl, Nat.le_of_ble_eq_true rfl⟩) hS (fun q _ h => hFc q h) hFc (fun E ce q9 H1 locs hX9 hz9 hk9 hS hc9 hv9 hf9 => ?_) (fun r_ u_ t_ H1 locs ht_ hvm_ hw_ hB_ hz_ hk_ hS => ?_)
  · have hP := vP_kept hP hk9
    rcases hX9 with ⟨rfl, hX9⟩ | ⟨rfl, hX9, hX8⟩
    · refine vx_catch (name := nIAE) hown [] ⟨0, 10, 13, 13⟩ [⟨0, 10, 17, 15⟩] htab (fun z hz => absurd hz List.not_mem_nil) (by decide) (by decide) (hts (.classLink RL 13 nIAE) (by decide +kernel)) (va_Nw.use rfl (hE.1.2.2.2.2.2.2.2.1 (.castable nIAE nIAE) (by decide +kernel))) hc9 hv9 hf9 ?_
      refine lv_astore (lv' := [(4, .ref q9), (0, .ref x0), (1, .int f), (2, .int e), (3, .ref o0)]) hx hb dL_serve_13 hl (by decide) rfl (fun ls hl => ?_)
      refine lv_iconst (v := nI 1) hx hb dL_serve_15 (by decide +kernel) ?_
      exact W.iret (v := nI 1) hx hb hr (fun u9 hu9 hW => ⟨⟨nI 1, (σ, ra, sb, hd, ol, out), rfl, ⟨Or.inr (Or.inl ⟨hX9, rfl, rfl⟩), ⟨hI, hX, hJ⟩⟩, by have h9 := hP; rw [← hu9] at h9; exact ⟨h9, hAe ▸ hD⟩⟩, hS.F hu9⟩) hS.2.2 dL_serve_16
    · refine vx_catch (name := nISE) hown [⟨0, 10, 13, 13⟩] ⟨0, 10, 17, 15⟩ [] htab (fun z hz => by rw [List.mem_singleton.mp hz]; exact Or.inr ⟨by decide, nIAE, hts (.classLink RL 13 nIAE) (by decide +kernel), hE.1.2.2.2.2.2.2.2.2⟩) (by decide) (by decide) (hts (.classLink RL 15 nISE) (by decide +kernel)) (va_Nw.use rfl (hE.1.2.2.2.2.2.2.2.1 (.castable nISE nISE) (by decide +kernel))) hc9 hv9 hf9 ?_
      refine lv_astore (lv' := [(4, .ref q9), (0, .ref x0), (1, .int f), (2, .int e), (3, .ref o0)]) hx hb dL_serve_17 hl (by decide) rfl (fun ls hl => ?_)
      refine lv_iconst (v := nI 2) hx hb dL_serve_19 (by decide +kernel) ?_
      exact W.iret (v := nI 2) hx hb hr (fun u9 hu9 hW => ⟨⟨nI 2, (σ, ra, sb, hd, ol, out), rfl, ⟨Or.inr (Or.inr ⟨hX9, hX8, rfl, rfl⟩), ⟨hI, hX, hJ⟩⟩, by have h9 := hP; rw [← hu9] at h9; exact ⟨h9, hAe ▸ hD⟩⟩, hS.F hu9⟩) hS.2.2 dL_serve_20
  · obtain ⟨σ', sb'⟩ := u_
    obtain ⟨⟨ho1, ho2⟩, h1_, rfl⟩ := hw_
    have h1_ : σ' = g_serve σ (plN f e) := h1_
    subst h1_
    obtain ⟨hP, hD⟩ := fr_joinR (w1 := xW cI cR cS x0 b ra sb hd ol σ) (w1' := (xW cI cR cS x0 b ra sb' hd ol (g_serve σ (plN f e)))) (w2 := [(o0, .inl (cL, 1, .inr (.inl out)))]) hP hD hA hk_ (by rw [← ht_]; exact hB_.1) (hB_.2)
    have hP : va_P dD vwCl (xoW cI cR cS cL x0 b o0 ((g_serve σ (plN f e)), ra, sb', hd, ol, out)) H1 := hP
    have hD : va_D A (xoW cI cR cS cL x0 b o0 ((g_serve σ (plN f e)), ra, sb', hd, ol, out)) := hD
    refine lv_i2l (v := ((eN (q_fr σ (s_cp σ (plN f e)) (s_now σ)))).toInt64) hx hb dL_serve_8 rfl ?_
    refine va_last hx hb hKL hP hD hS 0 0 rfl rfl (vp_in_nI (by decide) (by decide)) dL_serve_9 (fun H locs hP hD hS => ?_)
    have hP : va_P dD vwCl (xoW cI cR cS cL x0 b o0 ((g_serve σ (plN f e)), ra, sb', hd, ol, vp_updL out (nI 0).toNatClampNeg ((eN (q_fr σ (s_cp σ (plN f e)) (s_now σ)))).toInt64)) H := hP
    have hD : va_D A (xoW cI cR cS cL x0 b o0 ((g_serve σ (plN f e)), ra, sb', hd, ol, vp_updL out (nI 0).toNatClampNeg ((eN (q_fr σ (s_cp σ (plN f e)) (s_now σ)))).toInt64)) := hD
    refine lv_goto (tgt := 21) hx hb dL_serve_10 (by decide) ?_
    refine lv_iconst (v := nI 0) hx hb dL_serve_21 (by decide +kernel) ?_
    exact W.iret (v := nI 0) hx hb hr (fun u9 hu9 hW => ⟨⟨nI 0, ((g_serve σ (plN f e)), ra, sb', hd, ol, vp_updL out (nI 0).toNatClampNeg ((eN (q_fr σ (s_cp σ (plN f e)) (s_now σ)))).toInt64), rfl, ⟨Or.inl ⟨ho1, ho2, rfl, rfl, upL0 (f := out)⟩, ⟨sI_serve hI ho2 (okP_pl ho1), xI_same (σ := σ) rfl rfl rfl hX, xJ_serve hJ⟩⟩, by have h9 := hP; rw [← hu9] at h9; exact ⟨h9, hAe ▸ hD⟩⟩, hS.F hu9⟩) hS.2.2 dL_serve_22
