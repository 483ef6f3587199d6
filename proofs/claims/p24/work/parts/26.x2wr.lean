/-! the class: the constructors of a row and a serving, takeIn (laid by wip/whole/gen/x2wr.py) -/
set_option maxHeartbeats 4000000 in
set_option maxRecDepth 100000 in
theorem c_X0_init (l : Launch) (dD : va_G) (cI cR cS : ClassId) (lo : Nat) (sz h0 : Nat) (v0 v1 v2 v3 v4 v5 : Int32) : Met l yX0_init wsX0_init ({ frames := 1, cells := 0, slots := 0, locals := 12 }) (ePc dD cI cR cS lo [.ref h0, .int v0, .int v1, .int v2, .int v3, .int v4, .int v5] (fun H => H.size = sz ∧ va_P dD vwCl [(h0, .inr (0, [.int 0, .int 0, .int 0, .int 0, .int 0, .int 0, .null]))] H ∧ va_D (fun _ => True) [(h0, .inr (0, [.int 0, .int 0, .int 0, .int 0, .int 0, .int 0, .null]))])) (va_Qv (fun (_ : Unit) => True) (fun _ t => va_P dD vwCl [(h0, .inr (0, [.int v0, .int v1, .int v2, .int v3, .int v4, .int v5, .null]))] t.heap) (va_A [(h0, .inr (0, [.int 0, .int 0, .int 0, .int 0, .int 0, .int 0, .null]))] sz)) 0 0 (va_A [(h0, .inr (0, [.int 0, .int 0, .int 0, .int 0, .int 0, .int 0, .null]))] sz) := by
  refine Met.ofW (cc := cX0_init) (maxL := 7) (ret := none) (by decide) rfl ?_
  intro p e_ s m args below meth c s₁ B hml hv
  obtain ⟨rfl, hE, hsz, hP, hD0⟩ := hv
  have hx := B.exec
  have hb := B.bytes
  have hr := B.returns
  have hts := atoms_spec (ws := wsX0_init) B.pre
  have hown : s.vm.findClass RX0 = some m.cls := findClass_of_methodNamed B.named
  have hlocks := B.notSynchronized
  have hK := hE.1.1
  have hinX0 : ∀ w ∈ u_ws RX0 TX0 7, w ∈ wsX0_init := by decide +kernel
  subst hsz
  have hin : meth.name = "<init>" := (name_of_methodNamed B.named B.method).1
  have hD := hD0.self (sz := s.heap.size)
  generalize hAe : va_A [(h0, .inr (0, [.int 0, .int 0, .int 0, .int 0, .int 0, .int 0, .null]))] s.heap.size = A at hD ⊢
  have hS : va_S A s.heap s.heap [] := va_S.rf
  have hP : va_P dD vwCl [(h0, .inr (0, [.int 0, .int 0, .int 0, .int 0, .int 0, .int 0, .null]))] s.heap := hP
  have hl := lv_entry ([.ref h0, .int v0, .int v1, .int v2, .int v3, .int v4, .int v5]) (n := 7) (Nat.le_of_ble_eq_true rfl)
  rw [lg_entry_eq]
  generalize (lg_sl ([.ref h0, .int v0, .int v1, .int v2, .int v3, .int v4, .int v5]) ++ List.replicate (7 - (lg_sl ([.ref h0, .int v0, .int v1, .int v2, .int v3, .int v4, .int v5])).length) Slot.unset).toArray = ls at hl ⊢
  have hl : lv_has ls 7 [(0, .ref h0), (1, .int v0), (2, .int v1), (3, .int v2), (4, .int v3), (5, .int v4), (6, .int v5)] := hl
  refine lv_aload_n hx hb dX0_init_0 rfl (lv_at hl 0 rfl) ?_
  refine W.objInit hx hb hown (hts (.methodLink RX0 1 objectInit) (by decide +kernel)) (hts (.instanceMethod objectInit) (by decide +kernel)) (hts (.code objectInit ⟨#[0xb1]⟩ 1 none) (by decide +kernel)) rfl (by rw [hml]; exact hl.1) rfl dX0_init_1 (Nat.le_of_ble_eq_true rfl) (Nat.le_of_ble_eq_true rfl) ?_
  refine W.eq (g2 := F0 m 4 ls []) rfl ?_
  refine lv_aload_n hx hb dX0_init_4 rfl (lv_at hl 0 rfl) ?_
  refine lv_iload_n hx hb dX0_init_5 rfl (lv_at hl 1 rfl) ?_
  refine va_putF (D := dD) (ci := 0) (v := .int v0) (ty := .int) (C := RX0) (T := TX0) (N := 7) hx hb hts hinX0 tyX0 tyX0_ok nmX0 hown hK hP hD hS 0 rfl rfl 0 (by decide) (hts (.fieldLink RX0 7 "FeatureStore$Row" "number" "I") (by decide +kernel)) (fun _ h9 => h9) rfl hin rfl (by decide +kernel) rfl rfl (Nat.le_of_ble_eq_true rfl) dX0_init_6 (fun H locs hP hD hS => ?_)
  have hP : va_P dD vwCl [(h0, .inr (0, [.int v0, .int 0, .int 0, .int 0, .int 0, .int 0, .null]))] H := hP
  have hD : va_D A [(h0, .inr (0, [.int v0, .int 0, .int 0, .int 0, .int 0, .int 0, .null]))] := hD
  refine lv_aload_n hx hb dX0_init_9 rfl (lv_at hl 0 rfl) ?_
  refine lv_iload_n hx hb dX0_init_10 rfl (lv_at hl 2 rfl) ?_
  refine va_putF (D := dD) (ci := 0) (v := .int v1) (ty := .int) (C := RX0) (T := TX0) (N := 7) hx hb hts hinX0 tyX0 tyX0_ok nmX0 hown hK hP hD hS 0 rfl rfl 1 (by decide) (hts (.fieldLink RX0 13 "FeatureStore$Row" "feature" "I") (by decide +kernel)) (fun _ h9 => h9) rfl hin rfl (by decide +kernel) rfl rfl (Nat.le_of_ble_eq_true rfl) dX0_init_11 (fun H locs hP hD hS => ?_)
  have hP : va_P dD vwCl [(h0, .inr (0, [.int v0, .int v1, .int 0, .int 0, .int 0, .int 0, .null]))] H := hP
  have hD : va_D A [(h0, .inr (0, [.int v0, .int v1, .int 0, .int 0, .int 0, .int 0, .null]))] := hD
  refine lv_aload_n hx hb dX0_init_14 rfl (lv_at hl 0 rfl) ?_
  refine lv_iload_n hx hb dX0_init_15 rfl (lv_at hl 3 rfl) ?_
  refine va_putF (D := dD) (ci := 0) (v := .int v2) (ty := .int) (C := RX0) (T := TX0) (N := 7) hx hb hts hinX0 tyX0 tyX0_ok nmX0 hown hK hP hD hS 0 rfl rfl 2 (by decide) (hts (.fieldLink RX0 16 "FeatureStore$Row" "entity" "I") (by decide +kernel)) (fun _ h9 => h9) rfl hin rfl (by decide +kernel) rfl rfl (Nat.le_of_ble_eq_true rfl) dX0_init_16 (fun H locs hP hD hS => ?_)
  have hP : va_P dD vwCl [(h0, .inr (0, [.int v0, .int v1, .int v2, .int 0, .int 0, .int 0, .null]))] H := hP
  have hD : va_D A [(h0, .inr (0, [.int v0, .int v1, .int v2, .int 0, .int 0, .int 0, .null]))] := hD
  refine lv_aload_n hx hb dX0_init_19 rfl (lv_at hl 0 rfl) ?_
  refine lv_iload hx hb dX0_init_20 (lv_at hl 4 rfl) ?_
  refine va_putF (D := dD) (ci := 0) (v := .int v3) (ty := .int) (C := RX0) (T := TX0) (N := 7) hx hb hts hinX0 tyX0 tyX0_ok nmX0 hown hK hP hD hS 0 rfl rfl 3 (by decide) (hts (.fieldLink RX0 19 "FeatureStore$Row" "event" "I") (by decide +kernel)) (fun _ h9 => h9) rfl hin rfl (by decide +kernel) rfl rfl (Nat.le_of_ble_eq_true rfl) dX0_init_22 (fun H locs hP hD hS => ?_)
  have hP : va_P dD vwCl [(h0, .inr (0, [.int v0, .int v1, .int v2, .int v3, .int 0, .int 0, .null]))] H := hP
  have hD : va_D A [(h0, .inr (0, [.int v0, .int v1, .int v2, .int v3, .int 0, .int 0, .null]))] := hD
  refine lv_aload_n hx hb dX0_init_25 rfl (lv_at hl 0 rfl) ?_
  refine lv_iload hx hb dX0_init_26 (lv_at hl 5 rfl) ?_
  refine va_putF (D := dD) (ci := 0) (v := .int v4) (ty := .int) (C := RX0) (T := TX0) (N := 7) hx hb hts hinX0 tyX0 tyX0_ok nmX0 hown hK hP hD hS 0 rfl rfl 4 (by decide) (hts (.fieldLink RX0 22 "FeatureStore$Row" "arrival" "I") (by decide +kernel)) (fun _ h9 => h9) rfl hin rfl (by decide +kernel) rfl rfl (Nat.le_of_ble_eq_true rfl) dX0_init_28 (fun H locs hP hD hS => ?_)
  have hP : va_P dD vwCl [(h0, .inr (0, [.int v0, .int v1, .int v2, .int v3, .int v4, .int 0, .null]))] H := hP
  have hD : va_D A [(h0, .inr (0, [.int v0, .int v1, .int v2, .int v3, .int v4, .int 0, .null]))] := hD
  refine lv_aload_n hx hb dX0_init_31 rfl (lv_at hl 0 rfl) ?_
  refine lv_iload hx hb dX0_init_32 (lv_at hl 6 rfl) ?_
  refine va_putF (D := dD) (ci := 0) (v := .int v5) (ty := .int) (C := RX0) (T := TX0) (N := 7) hx hb hts hinX0 tyX0 tyX0_ok nmX0 hown hK hP hD hS 0 rfl rfl 5 (by decide) (hts (.fieldLink RX0 25 "FeatureStore$Row" "value" "I") (by decide +kernel)) (fun _ h9 => h9) rfl hin rfl (by decide +kernel) rfl rfl (Nat.le_of_ble_eq_true rfl) dX0_init_34 (fun H locs hP hD hS => ?_)
  have hP : va_P dD vwCl [(h0, .inr (0, [.int v0, .int v1, .int v2, .int v3, .int v4, .int v5, .null]))] H := hP
  have hD : va_D A [(h0, .inr (0, [.int v0, .int v1, .int v2, .int v3, .int v4, .int v5, .null]))] := hD
  exact W.vret hx hb hr (fun u9 hu9 hW => ⟨⟨(), rfl, trivial, by have h9 := hP; rw [← hu9] at h9; exact h9⟩, hS.F hu9⟩) hS.2.2 dX0_init_37

set_option maxHeartbeats 4000000 in
set_option maxRecDepth 100000 in
theorem c_X1_init (l : Launch) (dD : va_G) (cI cR cS : ClassId) (lo : Nat) (sz h0 : Nat) (v0 v1 v2 v3 : Int32) : Met l yX1_init wsX1_init ({ frames := 1, cells := 0, slots := 0, locals := 12 }) (ePc dD cI cR cS lo [.ref h0, .int v0, .int v1, .int v2, .int v3] (fun H => H.size = sz ∧ va_P dD vwCl [(h0, .inr (1, [.int 0, .int 0, .int 0, .int 0]))] H ∧ va_D (fun _ => True) [(h0, .inr (1, [.int 0, .int 0, .int 0, .int 0]))])) (va_Qv (fun (_ : Unit) => True) (fun _ t => va_P dD vwCl [(h0, .inr (1, [.int v0, .int v1, .int v2, .int v3]))] t.heap) (va_A [(h0, .inr (1, [.int 0, .int 0, .int 0, .int 0]))] sz)) 0 0 (va_A [(h0, .inr (1, [.int 0, .int 0, .int 0, .int 0]))] sz) := by
  refine Met.ofW (cc := cX1_init) (maxL := 5) (ret := none) (by decide) rfl ?_
  intro p e_ s m args below meth c s₁ B hml hv
  obtain ⟨rfl, hE, hsz, hP, hD0⟩ := hv
  have hx := B.exec
  have hb := B.bytes
  have hr := B.returns
  have hts := atoms_spec (ws := wsX1_init) B.pre
  have hown : s.vm.findClass RX1 = some m.cls := findClass_of_methodNamed B.named
  have hlocks := B.notSynchronized
  have hK := hE.1.1
  have hinX1 : ∀ w ∈ u_ws RX1 TX1 4, w ∈ wsX1_init := by decide +kernel
  subst hsz
  have hin : meth.name = "<init>" := (name_of_methodNamed B.named B.method).1
  have hD := hD0.self (sz := s.heap.size)
  generalize hAe : va_A [(h0, .inr (1, [.int 0, .int 0, .int 0, .int 0]))] s.heap.size = A at hD ⊢
  have hS : va_S A s.heap s.heap [] := va_S.rf
  have hP : va_P dD vwCl [(h0, .inr (1, [.int 0, .int 0, .int 0, .int 0]))] s.heap := hP
  have hl := lv_entry ([.ref h0, .int v0, .int v1, .int v2, .int v3]) (n := 5) (Nat.le_of_ble_eq_true rfl)
  rw [lg_entry_eq]
  generalize (lg_sl ([.ref h0, .int v0, .int v1, .int v2, .int v3]) ++ List.replicate (5 - (lg_sl ([.ref h0, .int v0, .int v1, .int v2, .int v3])).length) Slot.unset).toArray = ls at hl ⊢
  have hl : lv_has ls 5 [(0, .ref h0), (1, .int v0), (2, .int v1), (3, .int v2), (4, .int v3)] := hl
  refine lv_aload_n hx hb dX1_init_0 rfl (lv_at hl 0 rfl) ?_
  refine W.objInit hx hb hown (hts (.methodLink RX1 1 objectInit) (by decide +kernel)) (hts (.instanceMethod objectInit) (by decide +kernel)) (hts (.code objectInit ⟨#[0xb1]⟩ 1 none) (by decide +kernel)) rfl (by rw [hml]; exact hl.1) rfl dX1_init_1 (Nat.le_of_ble_eq_true rfl) (Nat.le_of_ble_eq_true rfl) ?_
  refine W.eq (g2 := F0 m 4 ls []) rfl ?_
  refine lv_aload_n hx hb dX1_init_4 rfl (lv_at hl 0 rfl) ?_
  refine lv_iload_n hx hb dX1_init_5 rfl (lv_at hl 1 rfl) ?_
  refine va_putF (D := dD) (ci := 1) (v := .int v0) (ty := .int) (C := RX1) (T := TX1) (N := 4) hx hb hts hinX1 tyX1 tyX1_ok nmX1 hown hK hP hD hS 0 rfl rfl 0 (by decide) (hts (.fieldLink RX1 7 "FeatureStore$Serving" "feature" "I") (by decide +kernel)) (fun _ h9 => h9) rfl hin rfl (by decide +kernel) rfl rfl (Nat.le_of_ble_eq_true rfl) dX1_init_6 (fun H locs hP hD hS => ?_)
  have hP : va_P dD vwCl [(h0, .inr (1, [.int v0, .int 0, .int 0, .int 0]))] H := hP
  have hD : va_D A [(h0, .inr (1, [.int v0, .int 0, .int 0, .int 0]))] := hD
  refine lv_aload_n hx hb dX1_init_9 rfl (lv_at hl 0 rfl) ?_
  refine lv_iload_n hx hb dX1_init_10 rfl (lv_at hl 2 rfl) ?_
  refine va_putF (D := dD) (ci := 1) (v := .int v1) (ty := .int) (C := RX1) (T := TX1) (N := 4) hx hb hts hinX1 tyX1 tyX1_ok nmX1 hown hK hP hD hS 0 rfl rfl 1 (by decide) (hts (.fieldLink RX1 13 "FeatureStore$Serving" "entity" "I") (by decide +kernel)) (fun _ h9 => h9) rfl hin rfl (by decide +kernel) rfl rfl (Nat.le_of_ble_eq_true rfl) dX1_init_11 (fun H locs hP hD hS => ?_)
  have hP : va_P dD vwCl [(h0, .inr (1, [.int v0, .int v1, .int 0, .int 0]))] H := hP
  have hD : va_D A [(h0, .inr (1, [.int v0, .int v1, .int 0, .int 0]))] := hD
  refine lv_aload_n hx hb dX1_init_14 rfl (lv_at hl 0 rfl) ?_
  refine lv_iload_n hx hb dX1_init_15 rfl (lv_at hl 3 rfl) ?_
  refine va_putF (D := dD) (ci := 1) (v := .int v2) (ty := .int) (C := RX1) (T := TX1) (N := 4) hx hb hts hinX1 tyX1 tyX1_ok nmX1 hown hK hP hD hS 0 rfl rfl 2 (by decide) (hts (.fieldLink RX1 16 "FeatureStore$Serving" "time" "I") (by decide +kernel)) (fun _ h9 => h9) rfl hin rfl (by decide +kernel) rfl rfl (Nat.le_of_ble_eq_true rfl) dX1_init_16 (fun H locs hP hD hS => ?_)
  have hP : va_P dD vwCl [(h0, .inr (1, [.int v0, .int v1, .int v2, .int 0]))] H := hP
  have hD : va_D A [(h0, .inr (1, [.int v0, .int v1, .int v2, .int 0]))] := hD
  refine lv_aload_n hx hb dX1_init_19 rfl (lv_at hl 0 rfl) ?_
  refine lv_iload hx hb dX1_init_20 (lv_at hl 4 rfl) ?_
  refine va_putF (D := dD) (ci := 1) (v := .int v3) (ty := .int) (C := RX1) (T := TX1) (N := 4) hx hb hts hinX1 tyX1 tyX1_ok nmX1 hown hK hP hD hS 0 rfl rfl 3 (by decide) (hts (.fieldLink RX1 19 "FeatureStore$Serving" "row" "I") (by decide +kernel)) (fun _ h9 => h9) rfl hin rfl (by decide +kernel) rfl rfl (Nat.le_of_ble_eq_true rfl) dX1_init_22 (fun H locs hP hD hS => ?_)
  have hP : va_P dD vwCl [(h0, .inr (1, [.int v0, .int v1, .int v2, .int v3]))] H := hP
  have hD : va_D A [(h0, .inr (1, [.int v0, .int v1, .int v2, .int v3]))] := hD
  exact W.vret hx hb hr (fun u9 hu9 hW => ⟨⟨(), rfl, trivial, by have h9 := hP; rw [← hu9] at h9; exact h9⟩, hS.F hu9⟩) hS.2.2 dX1_init_25

/-- the online copy behind a change is taken in -/
def q_in (σ : St) (c : Nat) : St := if s_cp σ (s_pr σ c) = 0 ∨ s_ev σ (s_cp σ (s_pr σ c) - 1) ≤ s_ev σ c then setS σ 9 (uN (s_cp σ) (s_pr σ c) (c + 1)) else σ
theorem take1_in (σ : St) : q_take1 σ = setS (q_in σ (s_tk σ)) 2 (fun _ => s_tk σ + 1) := rfl

set_option maxHeartbeats 4000000 in
set_option maxRecDepth 100000 in
theorem c_X2_takeIn (l : Launch) (dD : va_G) (cI cR cS : ClassId) (lo : Nat) (sz : Nat) (hlo : lo ≤ sz) (x0 : Nat) (b ra sb hd ol : Nat → Nat) (σ : St) (hI : sI σ) (c_ : Nat) (hc_ : c_ < s_n σ) : Met l yX2_takeIn wsX2_takeIn ({ frames := 1, cells := 0, slots := 0, locals := 21 }) (ePc dD cI cR cS lo [.ref x0, .ref (ra c_)] (fun H => H.size = sz ∧ va_P dD vwCl (xW cI cR cS x0 b ra sb hd ol σ) H ∧ va_D (fun q => lo ≤ q) (xW cI cR cS x0 b ra sb hd ol σ))) (va_Qv (fun (u : St) => u = q_in σ c_) (fun u t => va_P dD vwCl (xW cI cR cS x0 b ra sb hd ol u) t.heap) (va_A (xW cI cR cS x0 b ra sb hd ol σ) sz)) 0 0 (va_A (xW cI cR cS x0 b ra sb hd ol σ) sz) := by
  refine Met.ofW (cc := cX2_takeIn) (maxL := 4) (ret := none) (by decide) rfl ?_
  intro p e_ s m args below meth c s₁ B hml hv
  obtain ⟨rfl, hE, hsz, hP, hD0⟩ := hv
  have hx := B.exec
  have hb := B.bytes
  have hr := B.returns
  have hts := atoms_spec (ws := wsX2_takeIn) B.pre
  have hown : s.vm.findClass RX2 = some m.cls := findClass_of_methodNamed B.named
  have hlocks := B.notSynchronized
  have hK := hE.1.1
  have hinX0 : ∀ w ∈ u_ws RX0 TX0 7, w ∈ wsX2_takeIn := by decide +kernel
  have hinX2 : ∀ w ∈ u_ws RX2 TX2 9, w ∈ wsX2_takeIn := by decide +kernel
  subst hsz
  have hD := hD0.self (sz := s.heap.size)
  have hAlo : ∀ q, va_A (xW cI cR cS x0 b ra sb hd ol σ) s.heap.size q → lo ≤ q := eA_lo hD0 hlo
  generalize hAe : va_A (xW cI cR cS x0 b ra sb hd ol σ) s.heap.size = A at hD hAlo ⊢
  have hA : ∀ q : Nat, s.heap.size ≤ q → A q := fun q h => by rw [← hAe]; exact Or.inr h
  have hS : va_S A s.heap s.heap [] := va_S.rf
  have hP : va_P dD vwCl (xW cI cR cS x0 b ra sb hd ol σ) s.heap := hP
  obtain ⟨i_now, i_n, i_tk, i_k, i_lt, i_row, i_cp, i_srv⟩ := id hI
  have hl := lv_entry ([.ref x0, .ref (ra c_)]) (n := 4) (Nat.le_of_ble_eq_true rfl)
  rw [lg_entry_eq]
  generalize (lg_sl ([.ref x0, .ref (ra c_)]) ++ List.replicate (4 - (lg_sl ([.ref x0, .ref (ra c_)])).length) Slot.unset).toArray = ls at hl ⊢
  have hl : lv_has ls 4 [(0, .ref x0), (1, .ref (ra c_))] := hl
  have hz_c := hc_
  obtain ⟨hz_1, hz_2, hz_3, hz_4⟩ := i_row c_ hz_c
  obtain ⟨hz_5, hz_6⟩ := i_cp (s_pr σ c_) hz_1
  have hR := xRow hP hz_c
  refine lv_aload_n hx hb dX2_takeIn_0 rfl (lv_at hl 1 rfl) ?_
  refine va_get (D := dD) (ci := 0) (v := .int (nI (s_pr σ c_ / 10))) (C := RX0) (T := TX0) (N := 7) hx hb hts hinX0 hown hK hR 0 rfl rfl 1 (by decide) (hts (.fieldLink RX2 154 "FeatureStore$Row" "feature" "I") (by decide +kernel)) (fun _ h9 => h9) rfl dX2_takeIn_1 ?_
  refine lv_aload_n hx hb dX2_takeIn_4 rfl (lv_at hl 1 rfl) ?_
  refine va_get (D := dD) (ci := 0) (v := .int (nI (s_pr σ c_ % 10))) (C := RX0) (T := TX0) (N := 7) hx hb hts hinX0 hown hK hR 0 rfl rfl 2 (by decide) (hts (.fieldLink RX2 155 "FeatureStore$Row" "entity" "I") (by decide +kernel)) (fun _ h9 => h9) rfl dX2_takeIn_5 ?_
  refine vp_callSi (va_Run.run (va_runS (As := [.int (nI (s_pr σ c_ / 10)), .int (nI (s_pr σ c_ % 10))]) (rest := []) ⟨hx, hb, hml, hown, hts⟩ (c_X2_placeOf l dD cI cR cS lo (s_pr σ c_ / 10) (s_pr σ c_ % 10)) (va_cwS 2 hts gX2_takeIn_X2_placeOf rfl rfl rfl (by decide +kernel) ⟨Nat.le_of_ble_eq_true rfl, Nat.le_of_ble_eq_true rfl⟩) (ePreS hE (hS.mono hAlo) trivial) rfl rfl hl.1 rfl (lv_room (Nat.le_of_ble_eq_true rfl)) dX2_takeIn_8 ⟨Nat.le_of_ble_eq_true rfl, Nat.le_of_ble_eq_true rfl⟩)) (fun r_8 hr_8 => ?_)
  subst hr_8
  rw [show 10 * (s_pr σ c_ / 10) + (s_pr σ c_ % 10) = s_pr σ c_ from by omega]
  refine lv_istore_n (lv' := [(2, .int (nI (s_pr σ c_))), (0, .ref x0), (1, .ref (ra c_))]) hx hb dX2_takeIn_11 rfl hl (by decide) rfl (fun ls hl => ?_)
  refine lv_aload_n hx hb dX2_takeIn_12 rfl (lv_at hl 1 rfl) ?_
  refine va_get (D := dD) (ci := 2) (v := .ref (b 3)) (C := RX2) (T := TX2) (N := 9) hx hb hts hinX2 hown hK hP 0 rfl rfl 5 (by decide) (hts (.fieldLink RX2 22 "FeatureStore" "onlineCopy" "[LFeatureStore$Row;") (by decide +kernel)) (fun _ h9 => h9) rfl dX2_takeIn_13 ?_
  refine lv_iload_n hx hb dX2_takeIn_16 rfl (lv_at hl 0 rfl) ?_
  refine nq_aald (q0 := 4) (t0 := 1) (fun j => rfN ra (s_cp σ j)) hx hb hK hP rfl rfl (by omega) (by decide) dX2_takeIn_17 ?_
  have hz_e : ∀ r, s_cp σ (s_pr σ c_) = r + 1 → r < s_n σ := fun r hr => by omega
  have hsplit : ∀ v, v = s_cp σ (s_pr σ c_) → v = 0 ∨ ∃ r, v = r + 1 := fun v _ => by cases v with
    | zero => exact Or.inl rfl
    | succ r => exact Or.inr ⟨r, rfl⟩
  rcases hsplit _ rfl with hc0 | ⟨r_, hc0⟩
  · rw [hc0]
    refine W.eq (g2 := F0 m 18 ls [.null]) rfl ?_
    refine lv_astore_nN (lv' := [(3, .null), (2, .int (nI (s_pr σ c_))), (0, .ref x0), (1, .ref (ra c_))]) hx hb dX2_takeIn_18 rfl hl (by decide) rfl (fun ls hl => ?_)
    refine lv_aload_nN hx hb dX2_takeIn_19 rfl (lv_at hl 0 rfl) ?_
    refine lv_ifnullN (tgt := 34) hx hb dX2_takeIn_20 (by decide) ?_
    refine lv_aload_n hx hb dX2_takeIn_34 rfl (lv_at hl 2 rfl) ?_
    refine va_get (D := dD) (ci := 2) (v := .ref (b 3)) (C := RX2) (T := TX2) (N := 9) hx hb hts hinX2 hown hK hP 0 rfl rfl 5 (by decide) (hts (.fieldLink RX2 22 "FeatureStore" "onlineCopy" "[LFeatureStore$Row;") (by decide +kernel)) (fun _ h9 => h9) rfl dX2_takeIn_35 ?_
    refine lv_iload_n hx hb dX2_takeIn_38 rfl (lv_at hl 1 rfl) ?_
    refine lv_aload_n hx hb dX2_takeIn_39 rfl (lv_at hl 3 rfl) ?_
    refine nq_aast (q0 := 4) (t0 := 1) (qk := c_ + 6) (ci := 0) (r := (RX0, TX0, 7)) (fun j => rfN ra (s_cp σ j)) (fun j => rfN ra (uN (s_cp σ) (s_pr σ c_) (c_ + 1) j)) hx hb hK hP hD hS rfl rfl (pool_row hz_c) rfl (by omega) (by decide) upQ dX2_takeIn_40 (fun H locs hP hD hS => ?_)
    have hP : va_P dD vwCl ((x0, .inr (2, [.int (nI (s_now σ)), .ref (b 0), .ref (b 1), .int (nI (s_n σ)), .ref (b 2), .ref (b 3), .int (nI (s_tk σ)), .ref (b 4), .int (nI (s_k σ))])) :: (b 0, .inl (cI, 6, .inl (fun j => nI (s_lt σ j)))) :: (b 1, .inl (cR, 200, .inr (.inr (.inr (.inr (fun j => if j < s_n σ then some (ra j) else none)))))) :: (b 2, .inl (cR, 60, .inr (.inr (.inr (.inr (fun j => rfN ra (hd j))))))) :: (b 3, .inl (cR, 60, .inr (.inr (.inr (.inr (fun j => rfN ra ((uN (s_cp σ) (s_pr σ c_) (c_ + 1)) j))))))) :: (b 4, .inl (cS, 200, .inr (.inr (.inr (.inr (fun j => if j < s_k σ then some (sb j) else none)))))) :: (poolE ra sb ol σ (s_n σ) (s_k σ))) H := hP
    have hD : va_D A ((x0, .inr (2, [.int (nI (s_now σ)), .ref (b 0), .ref (b 1), .int (nI (s_n σ)), .ref (b 2), .ref (b 3), .int (nI (s_tk σ)), .ref (b 4), .int (nI (s_k σ))])) :: (b 0, .inl (cI, 6, .inl (fun j => nI (s_lt σ j)))) :: (b 1, .inl (cR, 200, .inr (.inr (.inr (.inr (fun j => if j < s_n σ then some (ra j) else none)))))) :: (b 2, .inl (cR, 60, .inr (.inr (.inr (.inr (fun j => rfN ra (hd j))))))) :: (b 3, .inl (cR, 60, .inr (.inr (.inr (.inr (fun j => rfN ra ((uN (s_cp σ) (s_pr σ c_) (c_ + 1)) j))))))) :: (b 4, .inl (cS, 200, .inr (.inr (.inr (.inr (fun j => if j < s_k σ then some (sb j) else none)))))) :: (poolE ra sb ol σ (s_n σ) (s_k σ))) := hD
    exact W.vret hx hb hr (fun u9 hu9 hW => ⟨⟨setS σ 9 (uN (s_cp σ) (s_pr σ c_) (c_ + 1)), rfl, by show _ = q_in σ c_; unfold q_in; rw [if_pos (Or.inl hc0)], by have h9 := hP; rw [← hu9] at h9; exact h9⟩, hS.F hu9⟩) hS.2.2 dX2_takeIn_41
  · rw [hc0]
    refine W.eq (g2 := F0 m 18 ls [.ref (ra r_)]) rfl ?_
    obtain ⟨hy_1, hy_2, hy_3, hy_4⟩ := i_row r_ (hz_e r_ hc0)
    have hR2 := xRow hP (hz_e r_ hc0)
    refine lv_astore_n (lv' := [(3, .ref (ra r_)), (2, .int (nI (s_pr σ c_))), (0, .ref x0), (1, .ref (ra c_))]) hx hb dX2_takeIn_18 rfl hl (by decide) rfl (fun ls hl => ?_)
    refine lv_aload_n hx hb dX2_takeIn_19 rfl (lv_at hl 0 rfl) ?_
    refine lv_ifnull hx hb dX2_takeIn_20 ?_
    refine lv_aload_n hx hb dX2_takeIn_23 rfl (lv_at hl 0 rfl) ?_
    refine va_get (D := dD) (ci := 0) (v := .int (nI (s_ev σ r_))) (C := RX0) (T := TX0) (N := 7) hx hb hts hinX0 hown hK hR2 0 rfl rfl 3 (by decide) (hts (.fieldLink RX2 76 "FeatureStore$Row" "event" "I") (by decide +kernel)) (fun _ h9 => h9) rfl dX2_takeIn_24 ?_
    refine lv_aload_n hx hb dX2_takeIn_27 rfl (lv_at hl 3 rfl) ?_
    refine va_get (D := dD) (ci := 0) (v := .int (nI (s_ev σ c_))) (C := RX0) (T := TX0) (N := 7) hx hb hts hinX0 hown hK hR 0 rfl rfl 3 (by decide) (hts (.fieldLink RX2 76 "FeatureStore$Row" "event" "I") (by decide +kernel)) (fun _ h9 => h9) rfl dX2_takeIn_28 ?_
    refine nv_gt (tgt := 41) hx hb dX2_takeIn_31 (by decide) (by omega) (by omega) (fun c_31 => ?_) (fun c_31 => ?_)
    · exact W.vret hx hb hr (fun u9 hu9 hW => ⟨⟨σ, rfl, by show _ = q_in σ c_; unfold q_in; rw [if_neg (by rintro (z | z); omega; rw [hc0, Nat.add_sub_cancel] at z; omega)], by have h9 := hP; rw [← hu9] at h9; exact h9⟩, hS.F hu9⟩) hS.2.2 dX2_takeIn_41
    · refine lv_aload_n hx hb dX2_takeIn_34 rfl (lv_at hl 2 rfl) ?_
      refine va_get (D := dD) (ci := 2) (v := .ref (b 3)) (C := RX2) (T := TX2) (N := 9) hx hb hts hinX2 hown hK hP 0 rfl rfl 5 (by decide) (hts (.fieldLink RX2 22 "FeatureStore" "onlineCopy" "[LFeatureStore$Row;") (by decide +kernel)) (fun _ h9 => h9) rfl dX2_takeIn_35 ?_
      refine lv_iload_n hx hb dX2_takeIn_38 rfl (lv_at hl 1 rfl) ?_
      refine lv_aload_n hx hb dX2_takeIn_39 rfl (lv_at hl 3 rfl) ?_
      refine nq_aast (q0 := 4) (t0 := 1) (qk := c_ + 6) (ci := 0) (r := (RX0, TX0, 7)) (fun j => rfN ra (s_cp σ j)) (fun j => rfN ra (uN (s_cp σ) (s_pr σ c_) (c_ + 1) j)) hx hb hK hP hD hS rfl rfl (pool_row hz_c) rfl (by omega) (by decide) upQ dX2_takeIn_40 (fun H locs hP hD hS => ?_)
      have hP : va_P dD vwCl ((x0, .inr (2, [.int (nI (s_now σ)), .ref (b 0), .ref (b 1), .int (nI (s_n σ)), .ref (b 2), .ref (b 3), .int (nI (s_tk σ)), .ref (b 4), .int (nI (s_k σ))])) :: (b 0, .inl (cI, 6, .inl (fun j => nI (s_lt σ j)))) :: (b 1, .inl (cR, 200, .inr (.inr (.inr (.inr (fun j => if j < s_n σ then some (ra j) else none)))))) :: (b 2, .inl (cR, 60, .inr (.inr (.inr (.inr (fun j => rfN ra (hd j))))))) :: (b 3, .inl (cR, 60, .inr (.inr (.inr (.inr (fun j => rfN ra ((uN (s_cp σ) (s_pr σ c_) (c_ + 1)) j))))))) :: (b 4, .inl (cS, 200, .inr (.inr (.inr (.inr (fun j => if j < s_k σ then some (sb j) else none)))))) :: (poolE ra sb ol σ (s_n σ) (s_k σ))) H := hP
      have hD : va_D A ((x0, .inr (2, [.int (nI (s_now σ)), .ref (b 0), .ref (b 1), .int (nI (s_n σ)), .ref (b 2), .ref (b 3), .int (nI (s_tk σ)), .ref (b 4), .int (nI (s_k σ))])) :: (b 0, .inl (cI, 6, .inl (fun j => nI (s_lt σ j)))) :: (b 1, .inl (cR, 200, .inr (.inr (.inr (.inr (fun j => if j < s_n σ then some (ra j) else none)))))) :: (b 2, .inl (cR, 60, .inr (.inr (.inr (.inr (fun j => rfN ra (hd j))))))) :: (b 3, .inl (cR, 60, .inr (.inr (.inr (.inr (fun j => rfN ra ((uN (s_cp σ) (s_pr σ c_) (c_ + 1)) j))))))) :: (b 4, .inl (cS, 200, .inr (.inr (.inr (.inr (fun j => if j < s_k σ then some (sb j) else none)))))) :: (poolE ra sb ol σ (s_n σ) (s_k σ))) := hD
      exact W.vret hx hb hr (fun u9 hu9 hW => ⟨⟨setS σ 9 (uN (s_cp σ) (s_pr σ c_) (c_ + 1)), rfl, by show _ = q_in σ c_; unfold q_in; rw [if_pos (Or.inr (by rw [hc0, Nat.add_sub_cancel]; omega))], by have h9 := hP; rw [← hu9] at h9; exact h9⟩, hS.F hu9⟩) hS.2.2 dX2_takeIn_41
