/-! the reference: revised, skew, unsound, serve (laid by wip/whole/gen/x3wr3.py) -/
theorem q_fr_le {σ : St} {o t n : Nat} (h : o ≤ n) : q_fr σ o t ≤ n := by
  simp only [q_fr]
  split
  · omega
  · split <;> omega
theorem tk1_k (σ : St) (k : Nat) (h9 : ¬ k = 9) (h2 : ¬ k = 2) : q_take1 σ k = σ k := by
  unfold q_take1
  show (if k = 2 then _ else _) = _
  rw [if_neg h2]
  split
  · show (if k = 9 then _ else _) = _
    rw [if_neg h9]
  · rfl
theorem tk1_0 (σ : St) : s_now (q_take1 σ) = s_now σ := congrFun (tk1_k σ 0 (by decide) (by decide)) 0
theorem tk1_1 (σ : St) : s_n (q_take1 σ) = s_n σ := congrFun (tk1_k σ 1 (by decide) (by decide)) 0
theorem tk1_2 (σ : St) : s_tk (q_take1 σ) = s_tk σ + 1 := rfl
theorem tk1_3 (σ : St) : s_k (q_take1 σ) = s_k σ := congrFun (tk1_k σ 3 (by decide) (by decide)) 0
theorem tk1_4 (σ : St) : s_lt (q_take1 σ) = s_lt σ := tk1_k σ 4 (by decide) (by decide)
theorem tk1_5 (σ : St) : s_pr (q_take1 σ) = s_pr σ := tk1_k σ 5 (by decide) (by decide)
theorem tk1_6 (σ : St) : s_ev (q_take1 σ) = s_ev σ := tk1_k σ 6 (by decide) (by decide)
theorem tk1_7 (σ : St) : s_ar (q_take1 σ) = s_ar σ := tk1_k σ 7 (by decide) (by decide)
theorem tk1_8 (σ : St) : s_vl (q_take1 σ) = s_vl σ := tk1_k σ 8 (by decide) (by decide)
theorem tk1_10 (σ : St) : s_sp (q_take1 σ) = s_sp σ := tk1_k σ 10 (by decide) (by decide)
theorem tk1_11 (σ : St) : s_sa (q_take1 σ) = s_sa σ := tk1_k σ 11 (by decide) (by decide)
theorem tk1_12 (σ : St) : s_sv (q_take1 σ) = s_sv σ := tk1_k σ 12 (by decide) (by decide)
theorem tk1_9 (σ : St) : s_cp (q_take1 σ) = if s_cp σ (s_pr σ (s_tk σ)) = 0 ∨ s_ev σ (s_cp σ (s_pr σ (s_tk σ)) - 1) ≤ s_ev σ (s_tk σ) then uN (s_cp σ) (s_pr σ (s_tk σ)) (s_tk σ + 1) else s_cp σ := by
  by_cases h : s_cp σ (s_pr σ (s_tk σ)) = 0 ∨ s_ev σ (s_cp σ (s_pr σ (s_tk σ)) - 1) ≤ s_ev σ (s_tk σ)
  · rw [if_pos h]; unfold q_take1; rw [if_pos h]; rfl
  · rw [if_neg h]; unfold q_take1; rw [if_neg h]; rfl
theorem sI_take1 {σ : St} (hI : sI σ) (h : s_tk σ < s_n σ) : sI (q_take1 σ) := by
  obtain ⟨i_now, i_n, i_tk, i_k, i_lt, i_row, i_cp, i_srv⟩ := hI
  unfold sI
  rw [tk1_0, tk1_1, tk1_2, tk1_3, tk1_4, tk1_5, tk1_6, tk1_7, tk1_8, tk1_9, tk1_10, tk1_11, tk1_12]
  refine ⟨i_now, i_n, h, i_k, i_lt, i_row, ?_, i_srv⟩
  intro q hq
  obtain ⟨h1, h2⟩ := i_cp q hq
  split
  · by_cases e : q = s_pr σ (s_tk σ)
    · subst e
      rw [uN_s]
      exact ⟨Nat.le_refl _, fun r hr => by
        have : r = s_tk σ := by omega
        rw [this]⟩
    · rw [uN_n e]
      exact ⟨by omega, h2⟩
  · exact ⟨by omega, h2⟩

set_option maxHeartbeats 4000000 in
set_option maxRecDepth 100000 in
theorem c_X3_revised (l : Launch) (dD : va_G) (cI cR cS : ClassId) (lo : Nat) (sz : Nat) (hlo : lo ≤ sz) (m0 : Nat) (a : Nat → Nat) (th : Nat) (σ : St) (hI : sI σ) (f e x : Int32) : Met l yX3_revised wsX3_revised ({ frames := 2, cells := 0, slots := 0, locals := 49 }) (ePc dD cI cR cS lo [.ref m0, .int f, .int e, .int x] (fun H => H.size = sz ∧ va_P dD vwCl (mW cI m0 a th σ) H ∧ va_D (fun q => lo ≤ q) (mW cI m0 a th σ))) (va_Qi (fun (r : Int32) (u : Nat × St) => R3 (okP f e ∧ rg x 1 10000) True σ σ (nI (q_rev σ (plN f e) (cl x) (s_now σ / cl x + 1))) r u) (fun u t => va_P dD vwCl (mW cI m0 a u.1 u.2) t.heap) (va_A (mW cI m0 a th σ) sz)) 0 0 (va_A (mW cI m0 a th σ) sz) := by
  refine Met.ofW (cc := cX3_revised) (maxL := 6) (ret := (some .int)) (by decide) rfl ?_
  intro p e_ s m args below meth c s₁ B hml hv
  obtain ⟨rfl, hE, hsz, hP, hD0⟩ := hv
  have hx := B.exec
  have hb := B.bytes
  have hr := B.returns
  have hts := atoms_spec (ws := wsX3_revised) B.pre
  have hown : s.vm.findClass RX3 = some m.cls := findClass_of_methodNamed B.named
  have hlocks := B.notSynchronized
  have hK := hE.1.1
  have hinX3 : ∀ w ∈ u_ws RX3 TX3 14, w ∈ wsX3_revised := by decide +kernel
  subst hsz
  have hD := hD0.self (sz := s.heap.size)
  have hAlo : ∀ q, va_A (mW cI m0 a th σ) s.heap.size q → lo ≤ q := eA_lo hD0 hlo
  generalize hAe : va_A (mW cI m0 a th σ) s.heap.size = A at hD hAlo ⊢
  have hA : ∀ q : Nat, s.heap.size ≤ q → A q := fun q h => by rw [← hAe]; exact Or.inr h
  have hS : va_S A s.heap s.heap [] := va_S.rf
  have hP : va_P dD vwCl (mW cI m0 a th σ) s.heap := hP
  obtain ⟨i_now, i_n, i_tk, i_k, i_lt, i_row, i_cp, i_srv⟩ := id hI
  have hl := lv_entry ([.ref m0, .int f, .int e, .int x]) (n := 6) (Nat.le_of_ble_eq_true rfl)
  rw [lg_entry_eq]
  generalize (lg_sl ([.ref m0, .int f, .int e, .int x]) ++ List.replicate (6 - (lg_sl ([.ref m0, .int f, .int e, .int x])).length) Slot.unset).toArray = ls at hl ⊢
  have hl : lv_has ls 6 [(0, .ref m0), (1, .int f), (2, .int e), (3, .int x)] := hl
  refine lv_aload_n hx hb dX3_revised_0 rfl (lv_at hl 0 rfl) ?_
  refine lv_iload_n hx hb dX3_revised_1 rfl (lv_at hl 1 rfl) ?_
  refine lv_iload_n hx hb dX3_revised_2 rfl (lv_at hl 2 rfl) ?_
  refine vp_callSi (va_Run.run (va_runS (As := [.int f, .int e]) (rest := [.ref m0]) ⟨hx, hb, hml, hown, hts⟩ (c_X3_isPair l dD cI cR cS lo f e) (va_cwS 2 hts gX3_revised_X3_isPair rfl rfl rfl (by decide +kernel) ⟨Nat.le_of_ble_eq_true rfl, Nat.le_of_ble_eq_true rfl⟩) (ePreS hE (hS.mono hAlo) trivial) rfl rfl hl.1 rfl (lv_room (Nat.le_of_ble_eq_true rfl)) dX3_revised_3 ⟨Nat.le_of_ble_eq_true rfl, Nat.le_of_ble_eq_true rfl⟩)) (fun r_3 hr_3 => ?_)
  rcases hr_3 with ⟨rfl, hr_3⟩ | ⟨rfl, hr_3⟩
  · refine nv_if_eq (tgt := 24) hx hb dX3_revised_6 (by decide) (by decide) (fun c_6 => absurd c_6 (by decide)) (fun c_6 => ?_)
    refine lv_iload_n hx hb dX3_revised_9 rfl (lv_at hl 3 rfl) ?_
    refine lv_iconst (v := nI 1) hx hb dX3_revised_10 (by decide +kernel) ?_
    refine lv_sipush (v := nI 10000) hx hb dX3_revised_11 (by decide +kernel) ?_
    refine vp_callSi (va_Run.run (va_runS (As := [.int x, .int (nI 1), .int (nI 10000)]) (rest := [.ref m0]) ⟨hx, hb, hml, hown, hts⟩ (c_X3_in l dD cI cR cS lo x (nI 1) (nI 10000)) (va_cwS 3 hts gX3_revised_X3_in rfl rfl rfl (by decide +kernel) ⟨Nat.le_of_ble_eq_true rfl, Nat.le_of_ble_eq_true rfl⟩) (ePreS hE (hS.mono hAlo) trivial) rfl rfl hl.1 rfl (lv_room (Nat.le_of_ble_eq_true rfl)) dX3_revised_14 ⟨Nat.le_of_ble_eq_true rfl, Nat.le_of_ble_eq_true rfl⟩)) (fun r_14 hr_14 => ?_)
    rcases hr_14 with ⟨rfl, hr_14⟩ | ⟨rfl, hr_14⟩
    · obtain ⟨fn, hfn1, hfn2, rfl⟩ := rg_of (by decide) (by decide) (hr_3.1)
      obtain ⟨en, hen1, hen2, rfl⟩ := rg_of (by decide) (by decide) (hr_3.2)
      obtain ⟨T, hT1, hT2, rfl⟩ := rg_of (by decide) (by decide) (hr_14)
      refine nv_if_eq (tgt := 24) hx hb dX3_revised_17 (by decide) (by decide) (fun c_17 => absurd c_17 (by decide)) (fun c_17 => ?_)
      refine lv_iconst (v := nI 0) hx hb dX3_revised_20 (by decide +kernel) ?_
      refine lv_goto (tgt := 25) hx hb dX3_revised_21 (by decide) ?_
      refine va_put (D := dD) (ci := 3) (v := .int (nI 0)) (ty := .int) (C := RX3) (T := TX3) (N := 14) hx hb hts hinX3 tyX3 tyX3_ok nmX3 hown hK hP hD hS 0 rfl rfl 0 (by decide) (hts (.fieldLink RX3 37 "FeatureStoreModel" "thrown" "I") (by decide +kernel)) (fun _ h9 => h9) rfl (by decide +kernel) rfl rfl (Nat.le_of_ble_eq_true rfl) dX3_revised_25 (fun H locs hP hD hS => ?_)
      have hP : va_P dD vwCl [(m0, .inr (3, [.int (nI 0), .int (nI (s_now σ)), .ref (a 0), .int (nI (s_n σ)), .ref (a 1), .ref (a 2), .ref (a 3), .ref (a 4), .int (nI (s_tk σ)), .ref (a 5), .int (nI (s_k σ)), .ref (a 6), .ref (a 7), .ref (a 8)])), (a 0, .inl (cI, 6, .inl (fun j => nI (s_lt σ j)))), (a 1, .inl (cI, 200, .inl (fun j => nI (s_pr σ j)))), (a 2, .inl (cI, 200, .inl (fun j => nI (s_ev σ j)))), (a 3, .inl (cI, 200, .inl (fun j => nI (s_ar σ j)))), (a 4, .inl (cI, 200, .inl (fun j => nI (s_vl σ j)))), (a 5, .inl (cI, 60, .inl (fun j => nI (s_cp σ j)))), (a 6, .inl (cI, 200, .inl (fun j => nI (s_sp σ j)))), (a 7, .inl (cI, 200, .inl (fun j => nI (s_sa σ j)))), (a 8, .inl (cI, 200, .inl (fun j => eN (s_sv σ j))))] H := hP
      have hD : va_D A [(m0, .inr (3, [.int (nI 0), .int (nI (s_now σ)), .ref (a 0), .int (nI (s_n σ)), .ref (a 1), .ref (a 2), .ref (a 3), .ref (a 4), .int (nI (s_tk σ)), .ref (a 5), .int (nI (s_k σ)), .ref (a 6), .ref (a 7), .ref (a 8)])), (a 0, .inl (cI, 6, .inl (fun j => nI (s_lt σ j)))), (a 1, .inl (cI, 200, .inl (fun j => nI (s_pr σ j)))), (a 2, .inl (cI, 200, .inl (fun j => nI (s_ev σ j)))), (a 3, .inl (cI, 200, .inl (fun j => nI (s_ar σ j)))), (a 4, .inl (cI, 200, .inl (fun j => nI (s_vl σ j)))), (a 5, .inl (cI, 60, .inl (fun j => nI (s_cp σ j)))), (a 6, .inl (cI, 200, .inl (fun j => nI (s_sp σ j)))), (a 7, .inl (cI, 200, .inl (fun j => nI (s_sa σ j)))), (a 8, .inl (cI, 200, .inl (fun j => eN (s_sv σ j))))] := hD
      refine lv_iconst (v := nI 0) hx hb dX3_revised_28 (by decide +kernel) ?_
      refine lv_istore (lv' := [(4, .int (nI 0)), (0, .ref m0), (1, .int (nI fn)), (2, .int (nI en)), (3, .int (nI T))]) hx hb dX3_revised_29 hl (by decide) rfl (fun ls hl => ?_)
      refine lv_iconst (v := nI 0) hx hb dX3_revised_31 (by decide +kernel) ?_
      refine lv_istore (lv' := [(5, .int (nI 0)), (4, .int (nI 0)), (0, .ref m0), (1, .int (nI fn)), (2, .int (nI en)), (3, .int (nI T))]) hx hb dX3_revised_32 hl (by decide) rfl (fun ls hl => ?_)
      have hlp : ∀ (d : Nat) (j : Nat), j * T ≤ s_now σ + T → s_now σ + T + 1 ≤ j * T + d → ∀ (ls : Array Slot), lv_has ls 6 [(0, .ref m0), (1, .int (nI fn)), (2, .int (nI en)), (3, .int (nI T)), (4, .int (nI (q_rev σ (10 * fn + en) T j))), (5, .int (nI (j * T)))] → W p l e_ (headSpec wsX3_revised ({ frames := 2, cells := 0, slots := 0, locals := 49 })).room s m (([.ref m0, .int (nI fn), .int (nI en), .int (nI T)] : List Value).toArray) below meth c H locs 0 0 (MQ below (va_Qi (fun (r : Int32) (u : Nat × St) => R3 (okP (nI fn) (nI en) ∧ rg (nI T) 1 10000) True σ σ (nI (q_rev σ (plN (nI fn) (nI en)) (cl (nI T)) (s_now σ / cl (nI T) + 1))) r u) (fun u t => va_P dD vwCl (mW cI m0 a u.1 u.2) t.heap) A) (([.ref m0, .int (nI fn), .int (nI en), .int (nI T)] : List Value).toArray) s 0 0 A) (F0 m 34 ls []) := by
        intro d
        induction d with
        | zero =>
          intro j hr1 hr2 ls hl
          exact absurd hr2 (by omega)
        | succ d ih =>
          intro j hr1 hr2 ls hl
          refine lv_iload hx hb dX3_revised_34 (lv_at hl 5 rfl) ?_
          refine lv_aload_n hx hb dX3_revised_36 rfl (lv_at hl 0 rfl) ?_
          refine va_get (D := dD) (ci := 3) (v := .int (nI (s_now σ))) (C := RX3) (T := TX3) (N := 14) hx hb hts hinX3 hown hK hP 0 rfl rfl 1 (by decide) (hts (.fieldLink RX3 49 "FeatureStoreModel" "now" "I") (by decide +kernel)) (fun _ h9 => h9) rfl dX3_revised_37 ?_
          refine nv_gt (tgt := 100) hx hb dX3_revised_40 (by decide) (by omega) (by omega) (fun c_40 => ?_) (fun c_40 => ?_)
          · refine lv_iload hx hb dX3_revised_100 (lv_at hl 4 rfl) ?_
            exact W.iret (v := nI (q_rev σ (10 * fn + en) T j)) hx hb hr (fun u9 hu9 hW => ⟨⟨nI (q_rev σ (10 * fn + en) T j), (0, σ), rfl, Or.inl ⟨⟨hr_3, hr_14⟩, trivial, rfl, by rw [plN, cl_nI (by omega), cl_nI (by omega), cl_nI (by omega), ← rev_j hr1 c_40]⟩, by have h9 := hP; rw [← hu9] at h9; exact h9⟩, hS.F hu9⟩) hS.2.2 dX3_revised_102
          · refine lv_aload_n hx hb dX3_revised_43 rfl (lv_at hl 0 rfl) ?_
            refine va_get (D := dD) (ci := 3) (v := .int (nI 0)) (C := RX3) (T := TX3) (N := 14) hx hb hts hinX3 hown hK hP 0 rfl rfl 0 (by decide) (hts (.fieldLink RX3 37 "FeatureStoreModel" "thrown" "I") (by decide +kernel)) (fun _ h9 => h9) rfl dX3_revised_44 ?_
            refine nv_if_ne (tgt := 100) hx hb dX3_revised_47 (by decide) (by decide) (fun c_47 => absurd c_47 (by decide)) (fun c_47 => ?_)
            have hz_j1 := q_join_le σ (10 * fn + en) (j * T) (s_now σ)
            have hz_j2 := q_join_le σ (10 * fn + en) (j * T) (j * T)
            refine lv_iload hx hb dX3_revised_50 (lv_at hl 4 rfl) ?_
            refine lv_aload_n hx hb dX3_revised_52 rfl (lv_at hl 0 rfl) ?_
            refine lv_iload_n hx hb dX3_revised_53 rfl (lv_at hl 1 rfl) ?_
            refine lv_iload_n hx hb dX3_revised_54 rfl (lv_at hl 2 rfl) ?_
            refine vp_callSi (va_Run.run (va_runS (As := [.int (nI fn), .int (nI en)]) (rest := [.ref m0, .int (nI (q_rev σ (10 * fn + en) T j))]) ⟨hx, hb, hml, hown, hts⟩ (c_X3_pairOf l dD cI cR cS lo fn en) (va_cwS 2 hts gX3_revised_X3_pairOf rfl rfl rfl (by decide +kernel) ⟨Nat.le_of_ble_eq_true rfl, Nat.le_of_ble_eq_true rfl⟩) (ePreS hE (hS.mono hAlo) trivial) rfl rfl hl.1 rfl (lv_room (Nat.le_of_ble_eq_true rfl)) dX3_revised_55 ⟨Nat.le_of_ble_eq_true rfl, Nat.le_of_ble_eq_true rfl⟩)) (fun r_55 hr_55 => ?_)
            subst hr_55
            refine lv_iload hx hb dX3_revised_58 (lv_at hl 5 rfl) ?_
            refine lv_aload_n hx hb dX3_revised_60 rfl (lv_at hl 0 rfl) ?_
            refine va_get (D := dD) (ci := 3) (v := .int (nI (s_now σ))) (C := RX3) (T := TX3) (N := 14) hx hb hts hinX3 hown hK hP 0 rfl rfl 1 (by decide) (hts (.fieldLink RX3 49 "FeatureStoreModel" "now" "I") (by decide +kernel)) (fun _ h9 => h9) rfl dX3_revised_61 ?_
            refine vp_callSi (va_Run.run (va_runV (As := [.int (nI (10 * fn + en)), .int (nI (j * T)), .int (nI (s_now σ))]) (rest := [.int (nI (q_rev σ (10 * fn + en) T j))]) ⟨hx, hb, hml, hown, hts⟩ (c_X3_joins l dD cI cR cS lo m0 a 0 σ hI (10 * fn + en) (j * T) (s_now σ) (by omega) (by omega) (by omega)) (cwV 3 hts gX3_revised_X3_joins rfl rfl rfl (by decide +kernel) ⟨Nat.le_of_ble_eq_true rfl, Nat.le_of_ble_eq_true rfl⟩) (ePreV hE (hS.mono hAlo) hP (k := 0) rfl rfl hP) rfl rfl hl.1 rfl (lv_room (Nat.le_of_ble_eq_true rfl)) dX3_revised_64 ⟨Nat.le_of_ble_eq_true rfl, Nat.le_of_ble_eq_true rfl⟩)) (fun r_64 hr_64 => ?_)
            subst hr_64
            refine lv_aload_n hx hb dX3_revised_67 rfl (lv_at hl 0 rfl) ?_
            refine lv_iload_n hx hb dX3_revised_68 rfl (lv_at hl 1 rfl) ?_
            refine lv_iload_n hx hb dX3_revised_69 rfl (lv_at hl 2 rfl) ?_
            refine vp_callSi (va_Run.run (va_runS (As := [.int (nI fn), .int (nI en)]) (rest := [.ref m0, .int (eN (q_join σ (10 * fn + en) (j * T) (s_now σ))), .int (nI (q_rev σ (10 * fn + en) T j))]) ⟨hx, hb, hml, hown, hts⟩ (c_X3_pairOf l dD cI cR cS lo fn en) (va_cwS 2 hts gX3_revised_X3_pairOf rfl rfl rfl (by decide +kernel) ⟨Nat.le_of_ble_eq_true rfl, Nat.le_of_ble_eq_true rfl⟩) (ePreS hE (hS.mono hAlo) trivial) rfl rfl hl.1 rfl (lv_room (Nat.le_of_ble_eq_true rfl)) dX3_revised_70 ⟨Nat.le_of_ble_eq_true rfl, Nat.le_of_ble_eq_true rfl⟩)) (fun r_70 hr_70 => ?_)
            subst hr_70
            refine lv_iload hx hb dX3_revised_73 (lv_at hl 5 rfl) ?_
            refine lv_iload hx hb dX3_revised_75 (lv_at hl 5 rfl) ?_
            refine vp_callSi (va_Run.run (va_runV (As := [.int (nI (10 * fn + en)), .int (nI (j * T)), .int (nI (j * T))]) (rest := [.int (eN (q_join σ (10 * fn + en) (j * T) (s_now σ))), .int (nI (q_rev σ (10 * fn + en) T j))]) ⟨hx, hb, hml, hown, hts⟩ (c_X3_joins l dD cI cR cS lo m0 a 0 σ hI (10 * fn + en) (j * T) (j * T) (by omega) (by omega) (by omega)) (cwV 3 hts gX3_revised_X3_joins rfl rfl rfl (by decide +kernel) ⟨Nat.le_of_ble_eq_true rfl, Nat.le_of_ble_eq_true rfl⟩) (ePreV hE (hS.mono hAlo) hP (k := 0) rfl rfl hP) rfl rfl hl.1 rfl (lv_room (Nat.le_of_ble_eq_true rfl)) dX3_revised_77 ⟨Nat.le_of_ble_eq_true rfl, Nat.le_of_ble_eq_true rfl⟩)) (fun r_77 hr_77 => ?_)
            subst hr_77
            refine nv_eqN (tgt := 87) hx hb dX3_revised_80 (by decide) (by omega) (by omega) (fun c_80 => ?_) (fun c_80 => ?_)
            · refine lv_iconst (v := nI 0) hx hb dX3_revised_87 (by decide +kernel) ?_
              refine nv_iadd hx hb dX3_revised_88 ?_
              refine lv_istore (lv' := [(4, .int (nI ((q_rev σ (10 * fn + en) T j) + 0))), (0, .ref m0), (1, .int (nI fn)), (2, .int (nI en)), (3, .int (nI T)), (5, .int (nI (j * T)))]) hx hb dX3_revised_89 hl (by decide) rfl (fun ls hl => ?_)
              refine lv_iload hx hb dX3_revised_91 (lv_at hl 5 rfl) ?_
              refine lv_iload_n hx hb dX3_revised_93 rfl (lv_at hl 4 rfl) ?_
              refine nv_iadd hx hb dX3_revised_94 ?_
              refine lv_istore (lv' := [(5, .int (nI ((j * T) + T))), (4, .int (nI ((q_rev σ (10 * fn + en) T j) + 0))), (0, .ref m0), (1, .int (nI fn)), (2, .int (nI en)), (3, .int (nI T))]) hx hb dX3_revised_95 hl (by decide) rfl (fun ls hl => ?_)
              refine lv_goto (tgt := 34) hx hb dX3_revised_97 (by decide) ?_
              exact ih (j + 1) (by rw [Nat.succ_mul]; omega) (by rw [Nat.succ_mul]; omega) ls (by rw [Nat.succ_mul j T, show q_rev σ (10 * fn + en) T (j + 1) = (q_rev σ (10 * fn + en) T j) + 0 from by simp only [q_rev]; rw [if_pos c_80]]; exact lv_sub hl [2, 3, 4, 5, 1, 0] rfl)
            · refine lv_iconst (v := nI 1) hx hb dX3_revised_83 (by decide +kernel) ?_
              refine lv_goto (tgt := 88) hx hb dX3_revised_84 (by decide) ?_
              refine nv_iadd hx hb dX3_revised_88 ?_
              refine lv_istore (lv' := [(4, .int (nI ((q_rev σ (10 * fn + en) T j) + 1))), (0, .ref m0), (1, .int (nI fn)), (2, .int (nI en)), (3, .int (nI T)), (5, .int (nI (j * T)))]) hx hb dX3_revised_89 hl (by decide) rfl (fun ls hl => ?_)
              refine lv_iload hx hb dX3_revised_91 (lv_at hl 5 rfl) ?_
              refine lv_iload_n hx hb dX3_revised_93 rfl (lv_at hl 4 rfl) ?_
              refine nv_iadd hx hb dX3_revised_94 ?_
              refine lv_istore (lv' := [(5, .int (nI ((j * T) + T))), (4, .int (nI ((q_rev σ (10 * fn + en) T j) + 1))), (0, .ref m0), (1, .int (nI fn)), (2, .int (nI en)), (3, .int (nI T))]) hx hb dX3_revised_95 hl (by decide) rfl (fun ls hl => ?_)
              refine lv_goto (tgt := 34) hx hb dX3_revised_97 (by decide) ?_
              exact ih (j + 1) (by rw [Nat.succ_mul]; omega) (by rw [Nat.succ_mul]; omega) ls (by rw [Nat.succ_mul j T, show q_rev σ (10 * fn + en) T (j + 1) = (q_rev σ (10 * fn + en) T j) + 1 from by simp only [q_rev]; rw [if_neg c_80]]; exact lv_sub hl [2, 3, 4, 5, 1, 0] rfl)
      exact hlp (s_now σ + T + 1) 0 (by omega) (by omega) ls (by rw [show 0 * T = 0 from Nat.zero_mul T]; exact lv_sub hl [2, 3, 4, 5, 1, 0] rfl)
    · refine nv_if_eq (tgt := 24) hx hb dX3_revised_17 (by decide) (by decide) (fun c_17 => ?_) (fun c_17 => absurd c_17 (by decide))
      refine lv_iconst (v := nI 1) hx hb dX3_revised_24 (by decide +kernel) ?_
      refine va_put (D := dD) (ci := 3) (v := .int (nI 1)) (ty := .int) (C := RX3) (T := TX3) (N := 14) hx hb hts hinX3 tyX3 tyX3_ok nmX3 hown hK hP hD hS 0 rfl rfl 0 (by decide) (hts (.fieldLink RX3 37 "FeatureStoreModel" "thrown" "I") (by decide +kernel)) (fun _ h9 => h9) rfl (by decide +kernel) rfl rfl (Nat.le_of_ble_eq_true rfl) dX3_revised_25 (fun H locs hP hD hS => ?_)
      have hP : va_P dD vwCl [(m0, .inr (3, [.int (nI 1), .int (nI (s_now σ)), .ref (a 0), .int (nI (s_n σ)), .ref (a 1), .ref (a 2), .ref (a 3), .ref (a 4), .int (nI (s_tk σ)), .ref (a 5), .int (nI (s_k σ)), .ref (a 6), .ref (a 7), .ref (a 8)])), (a 0, .inl (cI, 6, .inl (fun j => nI (s_lt σ j)))), (a 1, .inl (cI, 200, .inl (fun j => nI (s_pr σ j)))), (a 2, .inl (cI, 200, .inl (fun j => nI (s_ev σ j)))), (a 3, .inl (cI, 200, .inl (fun j => nI (s_ar σ j)))), (a 4, .inl (cI, 200, .inl (fun j => nI (s_vl σ j)))), (a 5, .inl (cI, 60, .inl (fun j => nI (s_cp σ j)))), (a 6, .inl (cI, 200, .inl (fun j => nI (s_sp σ j)))), (a 7, .inl (cI, 200, .inl (fun j => nI (s_sa σ j)))), (a 8, .inl (cI, 200, .inl (fun j => eN (s_sv σ j))))] H := hP
      have hD : va_D A [(m0, .inr (3, [.int (nI 1), .int (nI (s_now σ)), .ref (a 0), .int (nI (s_n σ)), .ref (a 1), .ref (a 2), .ref (a 3), .ref (a 4), .int (nI (s_tk σ)), .ref (a 5), .int (nI (s_k σ)), .ref (a 6), .ref (a 7), .ref (a 8)])), (a 0, .inl (cI, 6, .inl (fun j => nI (s_lt σ j)))), (a 1, .inl (cI, 200, .inl (fun j => nI (s_pr σ j)))), (a 2, .inl (cI, 200, .inl (fun j => nI (s_ev σ j)))), (a 3, .inl (cI, 200, .inl (fun j => nI (s_ar σ j)))), (a 4, .inl (cI, 200, .inl (fun j => nI (s_vl σ j)))), (a 5, .inl (cI, 60, .inl (fun j => nI (s_cp σ j)))), (a 6, .inl (cI, 200, .inl (fun j => nI (s_sp σ j)))), (a 7, .inl (cI, 200, .inl (fun j => nI (s_sa σ j)))), (a 8, .inl (cI, 200, .inl (fun j => eN (s_sv σ j))))] := hD
      refine lv_iconst (v := nI 0) hx hb dX3_revised_28 (by decide +kernel) ?_
      refine lv_istore (lv' := [(4, .int (nI 0)), (0, .ref m0), (1, .int f), (2, .int e), (3, .int x)]) hx hb dX3_revised_29 hl (by decide) rfl (fun ls hl => ?_)
      refine lv_iconst (v := nI 0) hx hb dX3_revised_31 (by decide +kernel) ?_
      refine lv_istore (lv' := [(5, .int (nI 0)), (4, .int (nI 0)), (0, .ref m0), (1, .int f), (2, .int e), (3, .int x)]) hx hb dX3_revised_32 hl (by decide) rfl (fun ls hl => ?_)
      refine lv_iload hx hb dX3_revised_34 (lv_at hl 0 rfl) ?_
      refine lv_aload_n hx hb dX3_revised_36 rfl (lv_at hl 2 rfl) ?_
      refine va_get (D := dD) (ci := 3) (v := .int (nI (s_now σ))) (C := RX3) (T := TX3) (N := 14) hx hb hts hinX3 hown hK hP 0 rfl rfl 1 (by decide) (hts (.fieldLink RX3 49 "FeatureStoreModel" "now" "I") (by decide +kernel)) (fun _ h9 => h9) rfl dX3_revised_37 ?_
      refine nv_gt (tgt := 100) hx hb dX3_revised_40 (by decide) (by omega) (by omega) (fun c_40 => absurd c_40 (by omega)) (fun c_40 => ?_)
      refine lv_aload_n hx hb dX3_revised_43 rfl (lv_at hl 2 rfl) ?_
      refine va_get (D := dD) (ci := 3) (v := .int (nI 1)) (C := RX3) (T := TX3) (N := 14) hx hb hts hinX3 hown hK hP 0 rfl rfl 0 (by decide) (hts (.fieldLink RX3 37 "FeatureStoreModel" "thrown" "I") (by decide +kernel)) (fun _ h9 => h9) rfl dX3_revised_44 ?_
      refine nv_if_ne (tgt := 100) hx hb dX3_revised_47 (by decide) (by decide) (fun c_47 => ?_) (fun c_47 => absurd c_47 (by decide))
      refine lv_iload hx hb dX3_revised_100 (lv_at hl 1 rfl) ?_
      exact W.iret (v := nI 0) hx hb hr (fun u9 hu9 hW => ⟨⟨nI 0, (1, σ), rfl, Or.inr (Or.inl ⟨fun h => hr_14 h.2, rfl⟩), by have h9 := hP; rw [← hu9] at h9; exact h9⟩, hS.F hu9⟩) hS.2.2 dX3_revised_102
  · refine nv_if_eq (tgt := 24) hx hb dX3_revised_6 (by decide) (by decide) (fun c_6 => ?_) (fun c_6 => absurd c_6 (by decide))
    refine lv_iconst (v := nI 1) hx hb dX3_revised_24 (by decide +kernel) ?_
    refine va_put (D := dD) (ci := 3) (v := .int (nI 1)) (ty := .int) (C := RX3) (T := TX3) (N := 14) hx hb hts hinX3 tyX3 tyX3_ok nmX3 hown hK hP hD hS 0 rfl rfl 0 (by decide) (hts (.fieldLink RX3 37 "FeatureStoreModel" "thrown" "I") (by decide +kernel)) (fun _ h9 => h9) rfl (by decide +kernel) rfl rfl (Nat.le_of_ble_eq_true rfl) dX3_revised_25 (fun H locs hP hD hS => ?_)
    have hP : va_P dD vwCl [(m0, .inr (3, [.int (nI 1), .int (nI (s_now σ)), .ref (a 0), .int (nI (s_n σ)), .ref (a 1), .ref (a 2), .ref (a 3), .ref (a 4), .int (nI (s_tk σ)), .ref (a 5), .int (nI (s_k σ)), .ref (a 6), .ref (a 7), .ref (a 8)])), (a 0, .inl (cI, 6, .inl (fun j => nI (s_lt σ j)))), (a 1, .inl (cI, 200, .inl (fun j => nI (s_pr σ j)))), (a 2, .inl (cI, 200, .inl (fun j => nI (s_ev σ j)))), (a 3, .inl (cI, 200, .inl (fun j => nI (s_ar σ j)))), (a 4, .inl (cI, 200, .inl (fun j => nI (s_vl σ j)))), (a 5, .inl (cI, 60, .inl (fun j => nI (s_cp σ j)))), (a 6, .inl (cI, 200, .inl (fun j => nI (s_sp σ j)))), (a 7, .inl (cI, 200, .inl (fun j => nI (s_sa σ j)))), (a 8, .inl (cI, 200, .inl (fun j => eN (s_sv σ j))))] H := hP
    have hD : va_D A [(m0, .inr (3, [.int (nI 1), .int (nI (s_now σ)), .ref (a 0), .int (nI (s_n σ)), .ref (a 1), .ref (a 2), .ref (a 3), .ref (a 4), .int (nI (s_tk σ)), .ref (a 5), .int (nI (s_k σ)), .ref (a 6), .ref (a 7), .ref (a 8)])), (a 0, .inl (cI, 6, .inl (fun j => nI (s_lt σ j)))), (a 1, .inl (cI, 200, .inl (fun j => nI (s_pr σ j)))), (a 2, .inl (cI, 200, .inl (fun j => nI (s_ev σ j)))), (a 3, .inl (cI, 200, .inl (fun j => nI (s_ar σ j)))), (a 4, .inl (cI, 200, .inl (fun j => nI (s_vl σ j)))), (a 5, .inl (cI, 60, .inl (fun j => nI (s_cp σ j)))), (a 6, .inl (cI, 200, .inl (fun j => nI (s_sp σ j)))), (a 7, .inl (cI, 200, .inl (fun j => nI (s_sa σ j)))), (a 8, .inl (cI, 200, .inl (fun j => eN (s_sv σ j))))] := hD
    refine lv_iconst (v := nI 0) hx hb dX3_revised_28 (by decide +kernel) ?_
    refine lv_istore (lv' := [(4, .int (nI 0)), (0, .ref m0), (1, .int f), (2, .int e), (3, .int x)]) hx hb dX3_revised_29 hl (by decide) rfl (fun ls hl => ?_)
    refine lv_iconst (v := nI 0) hx hb dX3_revised_31 (by decide +kernel) ?_
    refine lv_istore (lv' := [(5, .int (nI 0)), (4, .int (nI 0)), (0, .ref m0), (1, .int f), (2, .int e), (3, .int x)]) hx hb dX3_revised_32 hl (by decide) rfl (fun ls hl => ?_)
    refine lv_iload hx hb dX3_revised_34 (lv_at hl 0 rfl) ?_
    refine lv_aload_n hx hb dX3_revised_36 rfl (lv_at hl 2 rfl) ?_
    refine va_get (D := dD) (ci := 3) (v := .int (nI (s_now σ))) (C := RX3) (T := TX3) (N := 14) hx hb hts hinX3 hown hK hP 0 rfl rfl 1 (by decide) (hts (.fieldLink RX3 49 "FeatureStoreModel" "now" "I") (by decide +kernel)) (fun _ h9 => h9) rfl dX3_revised_37 ?_
    refine nv_gt (tgt := 100) hx hb dX3_revised_40 (by decide) (by omega) (by omega) (fun c_40 => absurd c_40 (by omega)) (fun c_40 => ?_)
    refine lv_aload_n hx hb dX3_revised_43 rfl (lv_at hl 2 rfl) ?_
    refine va_get (D := dD) (ci := 3) (v := .int (nI 1)) (C := RX3) (T := TX3) (N := 14) hx hb hts hinX3 hown hK hP 0 rfl rfl 0 (by decide) (hts (.fieldLink RX3 37 "FeatureStoreModel" "thrown" "I") (by decide +kernel)) (fun _ h9 => h9) rfl dX3_revised_44 ?_
    refine nv_if_ne (tgt := 100) hx hb dX3_revised_47 (by decide) (by decide) (fun c_47 => ?_) (fun c_47 => absurd c_47 (by decide))
    refine lv_iload hx hb dX3_revised_100 (lv_at hl 1 rfl) ?_
    exact W.iret (v := nI 0) hx hb hr (fun u9 hu9 hW => ⟨⟨nI 0, (1, σ), rfl, Or.inr (Or.inl ⟨fun h => hr_3 h.1, rfl⟩), by have h9 := hP; rw [← hu9] at h9; exact h9⟩, hS.F hu9⟩) hS.2.2 dX3_revised_102

set_option maxHeartbeats 4000000 in
set_option maxRecDepth 100000 in
theorem c_X3_skew (l : Launch) (dD : va_G) (cI cR cS : ClassId) (lo : Nat) (sz : Nat) (hlo : lo ≤ sz) (m0 : Nat) (a : Nat → Nat) (th : Nat) (σ : St) (hI : sI σ)  : Met l yX3_skew wsX3_skew ({ frames := 2, cells := 0, slots := 0, locals := 49 }) (ePc dD cI cR cS lo [.ref m0] (fun H => H.size = sz ∧ va_P dD vwCl (mW cI m0 a th σ) H ∧ va_D (fun q => lo ≤ q) (mW cI m0 a th σ))) (va_Qi (fun (r : Int32) (u : Nat × St) => u = (0, σ) ∧ r = nI (q_skew σ 60)) (fun u t => va_P dD vwCl (mW cI m0 a u.1 u.2) t.heap) (va_A (mW cI m0 a th σ) sz)) 0 0 (va_A (mW cI m0 a th σ) sz) := by
  refine Met.ofW (cc := cX3_skew) (maxL := 3) (ret := (some .int)) (by decide) rfl ?_
  intro p e_ s m args below meth c s₁ B hml hv
  obtain ⟨rfl, hE, hsz, hP, hD0⟩ := hv
  have hx := B.exec
  have hb := B.bytes
  have hr := B.returns
  have hts := atoms_spec (ws := wsX3_skew) B.pre
  have hown : s.vm.findClass RX3 = some m.cls := findClass_of_methodNamed B.named
  have hlocks := B.notSynchronized
  have hK := hE.1.1
  have hinX3 : ∀ w ∈ u_ws RX3 TX3 14, w ∈ wsX3_skew := by decide +kernel
  subst hsz
  have hD := hD0.self (sz := s.heap.size)
  have hAlo : ∀ q, va_A (mW cI m0 a th σ) s.heap.size q → lo ≤ q := eA_lo hD0 hlo
  generalize hAe : va_A (mW cI m0 a th σ) s.heap.size = A at hD hAlo ⊢
  have hA : ∀ q : Nat, s.heap.size ≤ q → A q := fun q h => by rw [← hAe]; exact Or.inr h
  have hS : va_S A s.heap s.heap [] := va_S.rf
  have hP : va_P dD vwCl (mW cI m0 a th σ) s.heap := hP
  obtain ⟨i_now, i_n, i_tk, i_k, i_lt, i_row, i_cp, i_srv⟩ := id hI
  have hl := lv_entry ([.ref m0]) (n := 3) (Nat.le_of_ble_eq_true rfl)
  rw [lg_entry_eq]
  generalize (lg_sl ([.ref m0]) ++ List.replicate (3 - (lg_sl ([.ref m0])).length) Slot.unset).toArray = ls at hl ⊢
  have hl : lv_has ls 3 [(0, .ref m0)] := hl
  refine lv_aload_n hx hb dX3_skew_0 rfl (lv_at hl 0 rfl) ?_
  refine lv_iconst (v := nI 0) hx hb dX3_skew_1 (by decide +kernel) ?_
  refine va_put (D := dD) (ci := 3) (v := .int (nI 0)) (ty := .int) (C := RX3) (T := TX3) (N := 14) hx hb hts hinX3 tyX3 tyX3_ok nmX3 hown hK hP hD hS 0 rfl rfl 0 (by decide) (hts (.fieldLink RX3 37 "FeatureStoreModel" "thrown" "I") (by decide +kernel)) (fun _ h9 => h9) rfl (by decide +kernel) rfl rfl (Nat.le_of_ble_eq_true rfl) dX3_skew_2 (fun H locs hP hD hS => ?_)
  have hP : va_P dD vwCl [(m0, .inr (3, [.int (nI 0), .int (nI (s_now σ)), .ref (a 0), .int (nI (s_n σ)), .ref (a 1), .ref (a 2), .ref (a 3), .ref (a 4), .int (nI (s_tk σ)), .ref (a 5), .int (nI (s_k σ)), .ref (a 6), .ref (a 7), .ref (a 8)])), (a 0, .inl (cI, 6, .inl (fun j => nI (s_lt σ j)))), (a 1, .inl (cI, 200, .inl (fun j => nI (s_pr σ j)))), (a 2, .inl (cI, 200, .inl (fun j => nI (s_ev σ j)))), (a 3, .inl (cI, 200, .inl (fun j => nI (s_ar σ j)))), (a 4, .inl (cI, 200, .inl (fun j => nI (s_vl σ j)))), (a 5, .inl (cI, 60, .inl (fun j => nI (s_cp σ j)))), (a 6, .inl (cI, 200, .inl (fun j => nI (s_sp σ j)))), (a 7, .inl (cI, 200, .inl (fun j => nI (s_sa σ j)))), (a 8, .inl (cI, 200, .inl (fun j => eN (s_sv σ j))))] H := hP
  have hD : va_D A [(m0, .inr (3, [.int (nI 0), .int (nI (s_now σ)), .ref (a 0), .int (nI (s_n σ)), .ref (a 1), .ref (a 2), .ref (a 3), .ref (a 4), .int (nI (s_tk σ)), .ref (a 5), .int (nI (s_k σ)), .ref (a 6), .ref (a 7), .ref (a 8)])), (a 0, .inl (cI, 6, .inl (fun j => nI (s_lt σ j)))), (a 1, .inl (cI, 200, .inl (fun j => nI (s_pr σ j)))), (a 2, .inl (cI, 200, .inl (fun j => nI (s_ev σ j)))), (a 3, .inl (cI, 200, .inl (fun j => nI (s_ar σ j)))), (a 4, .inl (cI, 200, .inl (fun j => nI (s_vl σ j)))), (a 5, .inl (cI, 60, .inl (fun j => nI (s_cp σ j)))), (a 6, .inl (cI, 200, .inl (fun j => nI (s_sp σ j)))), (a 7, .inl (cI, 200, .inl (fun j => nI (s_sa σ j)))), (a 8, .inl (cI, 200, .inl (fun j => eN (s_sv σ j))))] := hD
  refine lv_iconst (v := nI 0) hx hb dX3_skew_5 (by decide +kernel) ?_
  refine lv_istore_n (lv' := [(1, .int (nI 0)), (0, .ref m0)]) hx hb dX3_skew_6 rfl hl (by decide) rfl (fun ls hl => ?_)
  refine lv_iconst (v := nI 0) hx hb dX3_skew_7 (by decide +kernel) ?_
  refine lv_istore_n (lv' := [(2, .int (nI 0)), (1, .int (nI 0)), (0, .ref m0)]) hx hb dX3_skew_8 rfl hl (by decide) rfl (fun ls hl => ?_)
  have hlp : ∀ (d : Nat) (q : Nat), q ≤ 60 → 60 < q + d → ∀ (ls : Array Slot), lv_has ls 3 [(0, .ref m0), (1, .int (nI (q_skew σ q))), (2, .int (nI q))] → W p l e_ (headSpec wsX3_skew ({ frames := 2, cells := 0, slots := 0, locals := 49 })).room s m (([.ref m0] : List Value).toArray) below meth c H locs 0 0 (MQ below (va_Qi (fun (r : Int32) (u : Nat × St) => u = (0, σ) ∧ r = nI (q_skew σ 60)) (fun u t => va_P dD vwCl (mW cI m0 a u.1 u.2) t.heap) A) (([.ref m0] : List Value).toArray) s 0 0 A) (F0 m 9 ls []) := by
    intro d
    induction d with
    | zero =>
      intro q hr1 hr2 ls hl
      exact absurd hr2 (by omega)
    | succ d ih =>
      intro q hr1 hr2 ls hl
      refine lv_iload_n hx hb dX3_skew_9 rfl (lv_at hl 2 rfl) ?_
      refine lv_bipush (v := nI 60) hx hb dX3_skew_10 (by decide +kernel) ?_
      refine nv_ge (tgt := 61) hx hb dX3_skew_12 (by decide) (by omega) (by omega) (fun c_12 => ?_) (fun c_12 => ?_)
      · have hre : q = 60 := by omega
        subst hre
        have hl : lv_has ls 3 [(1, .int (nI (q_skew σ 60)))] := lv_sub hl [1] rfl
        refine lv_iload_n hx hb dX3_skew_61 rfl (lv_at hl 0 rfl) ?_
        exact W.iret (v := nI (q_skew σ 60)) hx hb hr (fun u9 hu9 hW => ⟨⟨nI (q_skew σ 60), (0, σ), rfl, ⟨rfl, rfl⟩, by have h9 := hP; rw [← hu9] at h9; exact h9⟩, hS.F hu9⟩) hS.2.2 dX3_skew_62
      · have hz_q : q < 60 := by omega
        obtain ⟨hz_1, hz_2⟩ := i_cp q hz_q
        have hz_3 := q_join_le σ q (s_now σ) (s_now σ)
        have hz_4 : q_fr σ (s_cp σ q) (s_now σ) ≤ s_n σ := q_fr_le (by omega)
        refine lv_iload_n hx hb dX3_skew_15 rfl (lv_at hl 1 rfl) ?_
        refine lv_aload_n hx hb dX3_skew_16 rfl (lv_at hl 0 rfl) ?_
        refine lv_aload_n hx hb dX3_skew_17 rfl (lv_at hl 0 rfl) ?_
        refine va_get (D := dD) (ci := 3) (v := .ref (a 5)) (C := RX3) (T := TX3) (N := 14) hx hb hts hinX3 hown hK hP 0 rfl rfl 9 (by decide) (hts (.fieldLink RX3 25 "FeatureStoreModel" "copy" "[I") (by decide +kernel)) (fun _ h9 => h9) rfl dX3_skew_18 ?_
        refine lv_iload_n hx hb dX3_skew_21 rfl (lv_at hl 2 rfl) ?_
        refine nv_iald (q0 := 6) (t0 := 0) (s_cp σ) hx hb hK hP rfl rfl (by omega) (by decide) dX3_skew_22 ?_
        refine lv_iconst (v := nI 1) hx hb dX3_skew_23 (by decide +kernel) ?_
        refine nv_isubN hx hb dX3_skew_24 ?_
        refine lv_aload_n hx hb dX3_skew_25 rfl (lv_at hl 0 rfl) ?_
        refine va_get (D := dD) (ci := 3) (v := .int (nI (s_now σ))) (C := RX3) (T := TX3) (N := 14) hx hb hts hinX3 hown hK hP 0 rfl rfl 1 (by decide) (hts (.fieldLink RX3 49 "FeatureStoreModel" "now" "I") (by decide +kernel)) (fun _ h9 => h9) rfl dX3_skew_26 ?_
        refine vp_callSi (va_Run.run (va_runV (As := [.int (eN (s_cp σ q)), .int (nI (s_now σ))]) (rest := [.int (nI (q_skew σ q))]) ⟨hx, hb, hml, hown, hts⟩ (c_X3_fresh l dD cI cR cS lo m0 a 0 σ hI (s_cp σ q) (s_now σ) (by omega) (by omega)) (cwV 2 hts gX3_skew_X3_fresh rfl rfl rfl (by decide +kernel) ⟨Nat.le_of_ble_eq_true rfl, Nat.le_of_ble_eq_true rfl⟩) (ePreV hE (hS.mono hAlo) hP (k := 0) rfl rfl hP) rfl rfl hl.1 rfl (lv_room (Nat.le_of_ble_eq_true rfl)) dX3_skew_29 ⟨Nat.le_of_ble_eq_true rfl, Nat.le_of_ble_eq_true rfl⟩)) (fun r_29 hr_29 => ?_)
        subst hr_29
        refine lv_aload_n hx hb dX3_skew_32 rfl (lv_at hl 0 rfl) ?_
        refine lv_iload_n hx hb dX3_skew_33 rfl (lv_at hl 2 rfl) ?_
        refine lv_aload_n hx hb dX3_skew_34 rfl (lv_at hl 0 rfl) ?_
        refine va_get (D := dD) (ci := 3) (v := .int (nI (s_now σ))) (C := RX3) (T := TX3) (N := 14) hx hb hts hinX3 hown hK hP 0 rfl rfl 1 (by decide) (hts (.fieldLink RX3 49 "FeatureStoreModel" "now" "I") (by decide +kernel)) (fun _ h9 => h9) rfl dX3_skew_35 ?_
        refine lv_aload_n hx hb dX3_skew_38 rfl (lv_at hl 0 rfl) ?_
        refine va_get (D := dD) (ci := 3) (v := .int (nI (s_now σ))) (C := RX3) (T := TX3) (N := 14) hx hb hts hinX3 hown hK hP 0 rfl rfl 1 (by decide) (hts (.fieldLink RX3 49 "FeatureStoreModel" "now" "I") (by decide +kernel)) (fun _ h9 => h9) rfl dX3_skew_39 ?_
        refine vp_callSi (va_Run.run (va_runV (As := [.int (nI q), .int (nI (s_now σ)), .int (nI (s_now σ))]) (rest := [.int (eN (q_fr σ (s_cp σ q) (s_now σ))), .int (nI (q_skew σ q))]) ⟨hx, hb, hml, hown, hts⟩ (c_X3_joins l dD cI cR cS lo m0 a 0 σ hI (q) (s_now σ) (s_now σ) (by omega) (by omega) (by omega)) (cwV 3 hts gX3_skew_X3_joins rfl rfl rfl (by decide +kernel) ⟨Nat.le_of_ble_eq_true rfl, Nat.le_of_ble_eq_true rfl⟩) (ePreV hE (hS.mono hAlo) hP (k := 0) rfl rfl hP) rfl rfl hl.1 rfl (lv_room (Nat.le_of_ble_eq_true rfl)) dX3_skew_42 ⟨Nat.le_of_ble_eq_true rfl, Nat.le_of_ble_eq_true rfl⟩)) (fun r_42 hr_42 => ?_)
        subst hr_42
        refine nv_eqN (tgt := 52) hx hb dX3_skew_45 (by decide) (by omega) (by omega) (fun c_45 => ?_) (fun c_45 => ?_)
        · refine lv_iconst (v := nI 0) hx hb dX3_skew_52 (by decide +kernel) ?_
          refine nv_iadd hx hb dX3_skew_53 ?_
          refine lv_istore_n (lv' := [(1, .int (nI ((q_skew σ q) + 0))), (0, .ref m0), (2, .int (nI q))]) hx hb dX3_skew_54 rfl hl (by decide) rfl (fun ls hl => ?_)
          refine lv_iinc (v := nI (q + 1)) (lv' := [(2, .int (nI (q + 1))), (1, .int (nI ((q_skew σ q) + 0))), (0, .ref m0)]) hx hb dX3_skew_55 hl (k := 2) rfl (nv_inc _ 1) (by decide) rfl (fun ls hl => ?_)
          refine lv_goto (tgt := 9) hx hb dX3_skew_58 (by decide) ?_
          exact ih (q + 1) (by omega) (by omega) ls (by rw [show q_skew σ (q + 1) = (q_skew σ q) + 0 from by simp only [q_skew]; rw [if_pos c_45]]; exact lv_sub hl [2, 1, 0] rfl)
        · refine lv_iconst (v := nI 1) hx hb dX3_skew_48 (by decide +kernel) ?_
          refine lv_goto (tgt := 53) hx hb dX3_skew_49 (by decide) ?_
          refine nv_iadd hx hb dX3_skew_53 ?_
          refine lv_istore_n (lv' := [(1, .int (nI ((q_skew σ q) + 1))), (0, .ref m0), (2, .int (nI q))]) hx hb dX3_skew_54 rfl hl (by decide) rfl (fun ls hl => ?_)
          refine lv_iinc (v := nI (q + 1)) (lv' := [(2, .int (nI (q + 1))), (1, .int (nI ((q_skew σ q) + 1))), (0, .ref m0)]) hx hb dX3_skew_55 hl (k := 2) rfl (nv_inc _ 1) (by decide) rfl (fun ls hl => ?_)
          refine lv_goto (tgt := 9) hx hb dX3_skew_58 (by decide) ?_
          exact ih (q + 1) (by omega) (by omega) ls (by rw [show q_skew σ (q + 1) = (q_skew σ q) + 1 from by simp only [q_skew]; rw [if_neg c_45]]; exact lv_sub hl [2, 1, 0] rfl)
  exact hlp 61 0 (Nat.zero_le _) (by omega) ls (lv_sub hl [2, 1, 0] rfl)

set_option maxHeartbeats 4000000 in
set_option maxRecDepth 100000 in
theorem c_X3_unsound (l : Launch) (dD : va_G) (cI cR cS : ClassId) (lo : Nat) (sz : Nat) (hlo : lo ≤ sz) (m0 : Nat) (a : Nat → Nat) (th : Nat) (σ : St) (hI : sI σ)  : Met l yX3_unsound wsX3_unsound ({ frames := 3, cells := 0, slots := 0, locals := 70 }) (ePc dD cI cR cS lo [.ref m0] (fun H => H.size = sz ∧ va_P dD vwCl (mW cI m0 a th σ) H ∧ va_D (fun q => lo ≤ q) (mW cI m0 a th σ))) (va_Qi (fun (r : Int32) (u : Nat × St) => u = (0, σ) ∧ r = nI (q_uns σ (s_k σ))) (fun u t => va_P dD vwCl (mW cI m0 a u.1 u.2) t.heap) (va_A (mW cI m0 a th σ) sz)) 0 0 (va_A (mW cI m0 a th σ) sz) := by
  refine Met.ofW (cc := cX3_unsound) (maxL := 3) (ret := (some .int)) (by decide) rfl ?_
  intro p e_ s m args below meth c s₁ B hml hv
  obtain ⟨rfl, hE, hsz, hP, hD0⟩ := hv
  have hx := B.exec
  have hb := B.bytes
  have hr := B.returns
  have hts := atoms_spec (ws := wsX3_unsound) B.pre
  have hown : s.vm.findClass RX3 = some m.cls := findClass_of_methodNamed B.named
  have hlocks := B.notSynchronized
  have hK := hE.1.1
  have hinX3 : ∀ w ∈ u_ws RX3 TX3 14, w ∈ wsX3_unsound := by decide +kernel
  subst hsz
  have hD := hD0.self (sz := s.heap.size)
  have hAlo : ∀ q, va_A (mW cI m0 a th σ) s.heap.size q → lo ≤ q := eA_lo hD0 hlo
  generalize hAe : va_A (mW cI m0 a th σ) s.heap.size = A at hD hAlo ⊢
  have hA : ∀ q : Nat, s.heap.size ≤ q → A q := fun q h => by rw [← hAe]; exact Or.inr h
  have hS : va_S A s.heap s.heap [] := va_S.rf
  have hP : va_P dD vwCl (mW cI m0 a th σ) s.heap := hP
  obtain ⟨i_now, i_n, i_tk, i_k, i_lt, i_row, i_cp, i_srv⟩ := id hI
  have hl := lv_entry ([.ref m0]) (n := 3) (Nat.le_of_ble_eq_true rfl)
  rw [lg_entry_eq]
  generalize (lg_sl ([.ref m0]) ++ List.replicate (3 - (lg_sl ([.ref m0])).length) Slot.unset).toArray = ls at hl ⊢
  have hl : lv_has ls 3 [(0, .ref m0)] := hl
  refine lv_aload_n hx hb dX3_unsound_0 rfl (lv_at hl 0 rfl) ?_
  refine lv_iconst (v := nI 0) hx hb dX3_unsound_1 (by decide +kernel) ?_
  refine va_put (D := dD) (ci := 3) (v := .int (nI 0)) (ty := .int) (C := RX3) (T := TX3) (N := 14) hx hb hts hinX3 tyX3 tyX3_ok nmX3 hown hK hP hD hS 0 rfl rfl 0 (by decide) (hts (.fieldLink RX3 37 "FeatureStoreModel" "thrown" "I") (by decide +kernel)) (fun _ h9 => h9) rfl (by decide +kernel) rfl rfl (Nat.le_of_ble_eq_true rfl) dX3_unsound_2 (fun H locs hP hD hS => ?_)
  have hP : va_P dD vwCl [(m0, .inr (3, [.int (nI 0), .int (nI (s_now σ)), .ref (a 0), .int (nI (s_n σ)), .ref (a 1), .ref (a 2), .ref (a 3), .ref (a 4), .int (nI (s_tk σ)), .ref (a 5), .int (nI (s_k σ)), .ref (a 6), .ref (a 7), .ref (a 8)])), (a 0, .inl (cI, 6, .inl (fun j => nI (s_lt σ j)))), (a 1, .inl (cI, 200, .inl (fun j => nI (s_pr σ j)))), (a 2, .inl (cI, 200, .inl (fun j => nI (s_ev σ j)))), (a 3, .inl (cI, 200, .inl (fun j => nI (s_ar σ j)))), (a 4, .inl (cI, 200, .inl (fun j => nI (s_vl σ j)))), (a 5, .inl (cI, 60, .inl (fun j => nI (s_cp σ j)))), (a 6, .inl (cI, 200, .inl (fun j => nI (s_sp σ j)))), (a 7, .inl (cI, 200, .inl (fun j => nI (s_sa σ j)))), (a 8, .inl (cI, 200, .inl (fun j => eN (s_sv σ j))))] H := hP
  have hD : va_D A [(m0, .inr (3, [.int (nI 0), .int (nI (s_now σ)), .ref (a 0), .int (nI (s_n σ)), .ref (a 1), .ref (a 2), .ref (a 3), .ref (a 4), .int (nI (s_tk σ)), .ref (a 5), .int (nI (s_k σ)), .ref (a 6), .ref (a 7), .ref (a 8)])), (a 0, .inl (cI, 6, .inl (fun j => nI (s_lt σ j)))), (a 1, .inl (cI, 200, .inl (fun j => nI (s_pr σ j)))), (a 2, .inl (cI, 200, .inl (fun j => nI (s_ev σ j)))), (a 3, .inl (cI, 200, .inl (fun j => nI (s_ar σ j)))), (a 4, .inl (cI, 200, .inl (fun j => nI (s_vl σ j)))), (a 5, .inl (cI, 60, .inl (fun j => nI (s_cp σ j)))), (a 6, .inl (cI, 200, .inl (fun j => nI (s_sp σ j)))), (a 7, .inl (cI, 200, .inl (fun j => nI (s_sa σ j)))), (a 8, .inl (cI, 200, .inl (fun j => eN (s_sv σ j))))] := hD
  refine lv_iconst (v := nI 0) hx hb dX3_unsound_5 (by decide +kernel) ?_
  refine lv_istore_n (lv' := [(1, .int (nI 0)), (0, .ref m0)]) hx hb dX3_unsound_6 rfl hl (by decide) rfl (fun ls hl => ?_)
  refine lv_iconst (v := nI 0) hx hb dX3_unsound_7 (by decide +kernel) ?_
  refine lv_istore_n (lv' := [(2, .int (nI 0)), (1, .int (nI 0)), (0, .ref m0)]) hx hb dX3_unsound_8 rfl hl (by decide) rfl (fun ls hl => ?_)
  have hlp : ∀ (d : Nat) (i : Nat), i ≤ s_k σ → s_k σ < i + d → ∀ (ls : Array Slot), lv_has ls 3 [(0, .ref m0), (1, .int (nI (q_uns σ i))), (2, .int (nI i))] → W p l e_ (headSpec wsX3_unsound ({ frames := 3, cells := 0, slots := 0, locals := 70 })).room s m (([.ref m0] : List Value).toArray) below meth c H locs 0 0 (MQ below (va_Qi (fun (r : Int32) (u : Nat × St) => u = (0, σ) ∧ r = nI (q_uns σ (s_k σ))) (fun u t => va_P dD vwCl (mW cI m0 a u.1 u.2) t.heap) A) (([.ref m0] : List Value).toArray) s 0 0 A) (F0 m 9 ls []) := by
    intro d
    induction d with
    | zero =>
      intro i hr1 hr2 ls hl
      exact absurd hr2 (by omega)
    | succ d ih =>
      intro i hr1 hr2 ls hl
      refine lv_iload_n hx hb dX3_unsound_9 rfl (lv_at hl 2 rfl) ?_
      refine lv_aload_n hx hb dX3_unsound_10 rfl (lv_at hl 0 rfl) ?_
      refine va_get (D := dD) (ci := 3) (v := .int (nI (s_k σ))) (C := RX3) (T := TX3) (N := 14) hx hb hts hinX3 hown hK hP 0 rfl rfl 10 (by decide) (hts (.fieldLink RX3 83 "FeatureStoreModel" "servings" "I") (by decide +kernel)) (fun _ h9 => h9) rfl dX3_unsound_11 ?_
      refine nv_ge (tgt := 39) hx hb dX3_unsound_14 (by decide) (by omega) (by omega) (fun c_14 => ?_) (fun c_14 => ?_)
      · have hre : i = s_k σ := by omega
        subst hre
        have hl : lv_has ls 3 [(1, .int (nI (q_uns σ (s_k σ))))] := lv_sub hl [1] rfl
        refine lv_iload_n hx hb dX3_unsound_39 rfl (lv_at hl 0 rfl) ?_
        exact W.iret (v := nI (q_uns σ (s_k σ))) hx hb hr (fun u9 hu9 hW => ⟨⟨nI (q_uns σ (s_k σ)), (0, σ), rfl, ⟨rfl, rfl⟩, by have h9 := hP; rw [← hu9] at h9; exact h9⟩, hS.F hu9⟩) hS.2.2 dX3_unsound_40
      · refine lv_iload_n hx hb dX3_unsound_17 rfl (lv_at hl 1 rfl) ?_
        refine lv_aload_n hx hb dX3_unsound_18 rfl (lv_at hl 0 rfl) ?_
        refine lv_iload_n hx hb dX3_unsound_19 rfl (lv_at hl 2 rfl) ?_
        have hi_ : i < s_k σ := by omega
        refine vp_callSi (va_Run.run (va_runV (As := [.int (nI i)]) (rest := [.int (nI (q_uns σ i))]) ⟨hx, hb, hml, hown, hts⟩ (c_X3_isRight l dD cI cR cS lo m0 a 0 σ hI i hi_) (cwV 1 hts gX3_unsound_X3_isRight rfl rfl rfl (by decide +kernel) ⟨Nat.le_of_ble_eq_true rfl, Nat.le_of_ble_eq_true rfl⟩) (ePreV hE (hS.mono hAlo) hP (k := 0) rfl rfl hP) rfl rfl hl.1 rfl (lv_room (Nat.le_of_ble_eq_true rfl)) dX3_unsound_20 ⟨Nat.le_of_ble_eq_true rfl, Nat.le_of_ble_eq_true rfl⟩)) (fun r_20 hr_20 => ?_)
        rcases hr_20 with ⟨rfl, hr_20⟩ | ⟨rfl, hr_20⟩
        · refine nv_if_eq (tgt := 30) hx hb dX3_unsound_23 (by decide) (by decide) (fun c_23 => absurd c_23 (by decide)) (fun c_23 => ?_)
          refine lv_iconst (v := nI 0) hx hb dX3_unsound_26 (by decide +kernel) ?_
          refine lv_goto (tgt := 31) hx hb dX3_unsound_27 (by decide) ?_
          refine nv_iadd hx hb dX3_unsound_31 ?_
          refine lv_istore_n (lv' := [(1, .int (nI ((q_uns σ i) + 0))), (0, .ref m0), (2, .int (nI i))]) hx hb dX3_unsound_32 rfl hl (by decide) rfl (fun ls hl => ?_)
          refine lv_iinc (v := nI (i + 1)) (lv' := [(2, .int (nI (i + 1))), (1, .int (nI ((q_uns σ i) + 0))), (0, .ref m0)]) hx hb dX3_unsound_33 hl (k := 2) rfl (nv_inc _ 1) (by decide) rfl (fun ls hl => ?_)
          refine lv_goto (tgt := 9) hx hb dX3_unsound_36 (by decide) ?_
          exact ih (i + 1) (by omega) (by omega) ls (by rw [show q_uns σ (i + 1) = (q_uns σ i) + 0 from by simp only [q_uns]; rw [if_pos hr_20]]; exact lv_sub hl [2, 1, 0] rfl)
        · refine nv_if_eq (tgt := 30) hx hb dX3_unsound_23 (by decide) (by decide) (fun c_23 => ?_) (fun c_23 => absurd c_23 (by decide))
          refine lv_iconst (v := nI 1) hx hb dX3_unsound_30 (by decide +kernel) ?_
          refine nv_iadd hx hb dX3_unsound_31 ?_
          refine lv_istore_n (lv' := [(1, .int (nI ((q_uns σ i) + 1))), (0, .ref m0), (2, .int (nI i))]) hx hb dX3_unsound_32 rfl hl (by decide) rfl (fun ls hl => ?_)
          refine lv_iinc (v := nI (i + 1)) (lv' := [(2, .int (nI (i + 1))), (1, .int (nI ((q_uns σ i) + 1))), (0, .ref m0)]) hx hb dX3_unsound_33 hl (k := 2) rfl (nv_inc _ 1) (by decide) rfl (fun ls hl => ?_)
          refine lv_goto (tgt := 9) hx hb dX3_unsound_36 (by decide) ?_
          exact ih (i + 1) (by omega) (by omega) ls (by rw [show q_uns σ (i + 1) = (q_uns σ i) + 1 from by simp only [q_uns]; rw [if_neg hr_20]]; exact lv_sub hl [2, 1, 0] rfl)
  exact hlp (s_k σ + 1) 0 (Nat.zero_le _) (by omega) ls (lv_sub hl [2, 1, 0] rfl)

theorem sI_half {σ : St} {q n x : Nat} (h : ∀ i, i < s_k σ → s_sp σ i < 60 ∧ s_sa σ i ≤ n ∧ s_sv σ i ≤ s_n σ) : ∀ i, i < s_k σ → uN (s_sp σ) (s_k σ) q i < 60 ∧ uN (s_sa σ) (s_k σ) x i ≤ n ∧ s_sv σ i ≤ s_n σ := by
  intro i hi
  rw [uN_n (by omega), uN_n (by omega)]
  exact h i hi

set_option maxHeartbeats 4000000 in
set_option maxRecDepth 100000 in
theorem c_X3_serve (l : Launch) (dD : va_G) (cI cR cS : ClassId) (lo : Nat) (sz : Nat) (hlo : lo ≤ sz) (m0 : Nat) (a : Nat → Nat) (th : Nat) (σ : St) (hI : sI σ) (f e : Int32) : Met l yX3_serve wsX3_serve ({ frames := 2, cells := 0, slots := 0, locals := 43 }) (ePc dD cI cR cS lo [.ref m0, .int f, .int e] (fun H => H.size = sz ∧ va_P dD vwCl (mW cI m0 a th σ) H ∧ va_D (fun q => lo ≤ q) (mW cI m0 a th σ))) (va_Qi (fun (r : Int32) (u : Nat × St) => R3 (okP f e) (s_k σ < 200) σ (g_serve σ (plN f e)) (eN (q_fr σ (s_cp σ (plN f e)) (s_now σ))) r u) (fun u t => va_P dD vwCl (mW cI m0 a u.1 u.2) t.heap) (va_A (mW cI m0 a th σ) sz)) 0 0 (va_A (mW cI m0 a th σ) sz) := by
  refine Met.ofW (cc := cX3_serve) (maxL := 4) (ret := (some .int)) (by decide) rfl ?_
  intro p e_ s m args below meth c s₁ B hml hv
  obtain ⟨rfl, hE, hsz, hP, hD0⟩ := hv
  have hx := B.exec
  have hb := B.bytes
  have hr := B.returns
  have hts := atoms_spec (ws := wsX3_serve) B.pre
  have hown : s.vm.findClass RX3 = some m.cls := findClass_of_methodNamed B.named
  have hlocks := B.notSynchronized
  have hK := hE.1.1
  have hinX3 : ∀ w ∈ u_ws RX3 TX3 14, w ∈ wsX3_serve := by decide +kernel
  subst hsz
  have hD := hD0.self (sz := s.heap.size)
  have hAlo : ∀ q, va_A (mW cI m0 a th σ) s.heap.size q → lo ≤ q := eA_lo hD0 hlo
  generalize hAe : va_A (mW cI m0 a th σ) s.heap.size = A at hD hAlo ⊢
  have hA : ∀ q : Nat, s.heap.size ≤ q → A q := fun q h => by rw [← hAe]; exact Or.inr h
  have hS : va_S A s.heap s.heap [] := va_S.rf
  have hP : va_P dD vwCl (mW cI m0 a th σ) s.heap := hP
  obtain ⟨i_now, i_n, i_tk, i_k, i_lt, i_row, i_cp, i_srv⟩ := id hI
  have hl := lv_entry ([.ref m0, .int f, .int e]) (n := 4) (Nat.le_of_ble_eq_true rfl)
  rw [lg_entry_eq]
  generalize (lg_sl ([.ref m0, .int f, .int e]) ++ List.replicate (4 - (lg_sl ([.ref m0, .int f, .int e])).length) Slot.unset).toArray = ls at hl ⊢
  have hl : lv_has ls 4 [(0, .ref m0), (1, .int f), (2, .int e)] := hl
  refine lv_aload_n hx hb dX3_serve_0 rfl (lv_at hl 0 rfl) ?_
  refine lv_iload_n hx hb dX3_serve_1 rfl (lv_at hl 1 rfl) ?_
  refine lv_iload_n hx hb dX3_serve_2 rfl (lv_at hl 2 rfl) ?_
  refine vp_callSi (va_Run.run (va_runS (As := [.int f, .int e]) (rest := [.ref m0]) ⟨hx, hb, hml, hown, hts⟩ (c_X3_isPair l dD cI cR cS lo f e) (va_cwS 2 hts gX3_serve_X3_isPair rfl rfl rfl (by decide +kernel) ⟨Nat.le_of_ble_eq_true rfl, Nat.le_of_ble_eq_true rfl⟩) (ePreS hE (hS.mono hAlo) trivial) rfl rfl hl.1 rfl (lv_room (Nat.le_of_ble_eq_true rfl)) dX3_serve_3 ⟨Nat.le_of_ble_eq_true rfl, Nat.le_of_ble_eq_true rfl⟩)) (fun r_3 hr_3 => ?_)
  rcases hr_3 with ⟨rfl, hr_3⟩ | ⟨rfl, hr_3⟩
  · obtain ⟨fn, hfn1, hfn2, rfl⟩ := rg_of (by decide) (by decide) (hr_3.1)
    obtain ⟨en, hen1, hen2, rfl⟩ := rg_of (by decide) (by decide) (hr_3.2)
    obtain ⟨hz_1, hz_2⟩ := i_cp (10 * fn + en) (by omega)
    refine nv_if_ne (tgt := 13) hx hb dX3_serve_6 (by decide) (by decide) (fun c_6 => ?_) (fun c_6 => absurd c_6 (by decide))
    refine lv_aload_n hx hb dX3_serve_13 rfl (lv_at hl 0 rfl) ?_
    refine va_get (D := dD) (ci := 3) (v := .int (nI (s_k σ))) (C := RX3) (T := TX3) (N := 14) hx hb hts hinX3 hown hK hP 0 rfl rfl 10 (by decide) (hts (.fieldLink RX3 83 "FeatureStoreModel" "servings" "I") (by decide +kernel)) (fun _ h9 => h9) rfl dX3_serve_14 ?_
    refine lv_sipush (v := nI 200) hx hb dX3_serve_17 (by decide +kernel) ?_
    refine nv_ne (tgt := 27) hx hb dX3_serve_20 (by decide) (by omega) (by omega) (fun c_20 => ?_) (fun c_20 => ?_)
    · refine lv_iconst (v := nI 0) hx hb dX3_serve_27 (by decide +kernel) ?_
      refine va_put (D := dD) (ci := 3) (v := .int (nI 0)) (ty := .int) (C := RX3) (T := TX3) (N := 14) hx hb hts hinX3 tyX3 tyX3_ok nmX3 hown hK hP hD hS 0 rfl rfl 0 (by decide) (hts (.fieldLink RX3 37 "FeatureStoreModel" "thrown" "I") (by decide +kernel)) (fun _ h9 => h9) rfl (by decide +kernel) rfl rfl (Nat.le_of_ble_eq_true rfl) dX3_serve_28 (fun H locs hP hD hS => ?_)
      have hP : va_P dD vwCl [(m0, .inr (3, [.int (nI 0), .int (nI (s_now σ)), .ref (a 0), .int (nI (s_n σ)), .ref (a 1), .ref (a 2), .ref (a 3), .ref (a 4), .int (nI (s_tk σ)), .ref (a 5), .int (nI (s_k σ)), .ref (a 6), .ref (a 7), .ref (a 8)])), (a 0, .inl (cI, 6, .inl (fun j => nI (s_lt σ j)))), (a 1, .inl (cI, 200, .inl (fun j => nI (s_pr σ j)))), (a 2, .inl (cI, 200, .inl (fun j => nI (s_ev σ j)))), (a 3, .inl (cI, 200, .inl (fun j => nI (s_ar σ j)))), (a 4, .inl (cI, 200, .inl (fun j => nI (s_vl σ j)))), (a 5, .inl (cI, 60, .inl (fun j => nI (s_cp σ j)))), (a 6, .inl (cI, 200, .inl (fun j => nI (s_sp σ j)))), (a 7, .inl (cI, 200, .inl (fun j => nI (s_sa σ j)))), (a 8, .inl (cI, 200, .inl (fun j => eN (s_sv σ j))))] H := hP
      have hD : va_D A [(m0, .inr (3, [.int (nI 0), .int (nI (s_now σ)), .ref (a 0), .int (nI (s_n σ)), .ref (a 1), .ref (a 2), .ref (a 3), .ref (a 4), .int (nI (s_tk σ)), .ref (a 5), .int (nI (s_k σ)), .ref (a 6), .ref (a 7), .ref (a 8)])), (a 0, .inl (cI, 6, .inl (fun j => nI (s_lt σ j)))), (a 1, .inl (cI, 200, .inl (fun j => nI (s_pr σ j)))), (a 2, .inl (cI, 200, .inl (fun j => nI (s_ev σ j)))), (a 3, .inl (cI, 200, .inl (fun j => nI (s_ar σ j)))), (a 4, .inl (cI, 200, .inl (fun j => nI (s_vl σ j)))), (a 5, .inl (cI, 60, .inl (fun j => nI (s_cp σ j)))), (a 6, .inl (cI, 200, .inl (fun j => nI (s_sp σ j)))), (a 7, .inl (cI, 200, .inl (fun j => nI (s_sa σ j)))), (a 8, .inl (cI, 200, .inl (fun j => eN (s_sv σ j))))] := hD
      refine lv_aload_n hx hb dX3_serve_31 rfl (lv_at hl 0 rfl) ?_
      refine va_get (D := dD) (ci := 3) (v := .int (nI 0)) (C := RX3) (T := TX3) (N := 14) hx hb hts hinX3 hown hK hP 0 rfl rfl 0 (by decide) (hts (.fieldLink RX3 37 "FeatureStoreModel" "thrown" "I") (by decide +kernel)) (fun _ h9 => h9) rfl dX3_serve_32 ?_
      refine nv_if_le (tgt := 40) hx hb dX3_serve_35 (by decide) (by decide) (fun c_35 => ?_) (fun c_35 => absurd c_35 (by decide))
      refine lv_iload_n hx hb dX3_serve_40 rfl (lv_at hl 1 rfl) ?_
      refine lv_iload_n hx hb dX3_serve_41 rfl (lv_at hl 2 rfl) ?_
      refine vp_callSi (va_Run.run (va_runS (As := [.int (nI fn), .int (nI en)]) (rest := []) ⟨hx, hb, hml, hown, hts⟩ (c_X3_pairOf l dD cI cR cS lo fn en) (va_cwS 2 hts gX3_serve_X3_pairOf rfl rfl rfl (by decide +kernel) ⟨Nat.le_of_ble_eq_true rfl, Nat.le_of_ble_eq_true rfl⟩) (ePreS hE (hS.mono hAlo) trivial) rfl rfl hl.1 rfl (lv_room (Nat.le_of_ble_eq_true rfl)) dX3_serve_42 ⟨Nat.le_of_ble_eq_true rfl, Nat.le_of_ble_eq_true rfl⟩)) (fun r_42 hr_42 => ?_)
      subst hr_42
      refine lv_istore_n (lv' := [(3, .int (nI (10 * fn + en))), (0, .ref m0), (1, .int (nI fn)), (2, .int (nI en))]) hx hb dX3_serve_45 rfl hl (by decide) rfl (fun ls hl => ?_)
      refine lv_aload_n hx hb dX3_serve_46 rfl (lv_at hl 1 rfl) ?_
      refine va_get (D := dD) (ci := 3) (v := .ref (a 6)) (C := RX3) (T := TX3) (N := 14) hx hb hts hinX3 hown hK hP 0 rfl rfl 11 (by decide) (hts (.fieldLink RX3 28 "FeatureStoreModel" "servedPair" "[I") (by decide +kernel)) (fun _ h9 => h9) rfl dX3_serve_47 ?_
      refine lv_aload_n hx hb dX3_serve_50 rfl (lv_at hl 1 rfl) ?_
      refine va_get (D := dD) (ci := 3) (v := .int (nI (s_k σ))) (C := RX3) (T := TX3) (N := 14) hx hb hts hinX3 hown hK hP 0 rfl rfl 10 (by decide) (hts (.fieldLink RX3 83 "FeatureStoreModel" "servings" "I") (by decide +kernel)) (fun _ h9 => h9) rfl dX3_serve_51 ?_
      refine lv_iload_n hx hb dX3_serve_54 rfl (lv_at hl 0 rfl) ?_
      refine nv_iast (q0 := 7) (t0 := 0) (s_sp σ) hx hb hK hP hD hS rfl rfl (by omega) (by decide) dX3_serve_55 (fun H locs hP hD hS => ?_)
      have hP : va_P dD vwCl [(m0, .inr (3, [.int (nI 0), .int (nI (s_now σ)), .ref (a 0), .int (nI (s_n σ)), .ref (a 1), .ref (a 2), .ref (a 3), .ref (a 4), .int (nI (s_tk σ)), .ref (a 5), .int (nI (s_k σ)), .ref (a 6), .ref (a 7), .ref (a 8)])), (a 0, .inl (cI, 6, .inl (fun j => nI (s_lt σ j)))), (a 1, .inl (cI, 200, .inl (fun j => nI (s_pr σ j)))), (a 2, .inl (cI, 200, .inl (fun j => nI (s_ev σ j)))), (a 3, .inl (cI, 200, .inl (fun j => nI (s_ar σ j)))), (a 4, .inl (cI, 200, .inl (fun j => nI (s_vl σ j)))), (a 5, .inl (cI, 60, .inl (fun j => nI (s_cp σ j)))), (a 6, .inl (cI, 200, .inl (fun j => nI ((uN (s_sp σ) (s_k σ) (10 * fn + en)) j)))), (a 7, .inl (cI, 200, .inl (fun j => nI (s_sa σ j)))), (a 8, .inl (cI, 200, .inl (fun j => eN (s_sv σ j))))] H := hP
      have hD : va_D A [(m0, .inr (3, [.int (nI 0), .int (nI (s_now σ)), .ref (a 0), .int (nI (s_n σ)), .ref (a 1), .ref (a 2), .ref (a 3), .ref (a 4), .int (nI (s_tk σ)), .ref (a 5), .int (nI (s_k σ)), .ref (a 6), .ref (a 7), .ref (a 8)])), (a 0, .inl (cI, 6, .inl (fun j => nI (s_lt σ j)))), (a 1, .inl (cI, 200, .inl (fun j => nI (s_pr σ j)))), (a 2, .inl (cI, 200, .inl (fun j => nI (s_ev σ j)))), (a 3, .inl (cI, 200, .inl (fun j => nI (s_ar σ j)))), (a 4, .inl (cI, 200, .inl (fun j => nI (s_vl σ j)))), (a 5, .inl (cI, 60, .inl (fun j => nI (s_cp σ j)))), (a 6, .inl (cI, 200, .inl (fun j => nI ((uN (s_sp σ) (s_k σ) (10 * fn + en)) j)))), (a 7, .inl (cI, 200, .inl (fun j => nI (s_sa σ j)))), (a 8, .inl (cI, 200, .inl (fun j => eN (s_sv σ j))))] := hD
      refine lv_aload_n hx hb dX3_serve_56 rfl (lv_at hl 1 rfl) ?_
      refine va_get (D := dD) (ci := 3) (v := .ref (a 7)) (C := RX3) (T := TX3) (N := 14) hx hb hts hinX3 hown hK hP 0 rfl rfl 12 (by decide) (hts (.fieldLink RX3 31 "FeatureStoreModel" "servedAt" "[I") (by decide +kernel)) (fun _ h9 => h9) rfl dX3_serve_57 ?_
      refine lv_aload_n hx hb dX3_serve_60 rfl (lv_at hl 1 rfl) ?_
      refine va_get (D := dD) (ci := 3) (v := .int (nI (s_k σ))) (C := RX3) (T := TX3) (N := 14) hx hb hts hinX3 hown hK hP 0 rfl rfl 10 (by decide) (hts (.fieldLink RX3 83 "FeatureStoreModel" "servings" "I") (by decide +kernel)) (fun _ h9 => h9) rfl dX3_serve_61 ?_
      refine lv_aload_n hx hb dX3_serve_64 rfl (lv_at hl 1 rfl) ?_
      refine va_get (D := dD) (ci := 3) (v := .int (nI (s_now σ))) (C := RX3) (T := TX3) (N := 14) hx hb hts hinX3 hown hK hP 0 rfl rfl 1 (by decide) (hts (.fieldLink RX3 49 "FeatureStoreModel" "now" "I") (by decide +kernel)) (fun _ h9 => h9) rfl dX3_serve_65 ?_
      refine nv_iast (q0 := 8) (t0 := 0) (s_sa σ) hx hb hK hP hD hS rfl rfl (by omega) (by decide) dX3_serve_68 (fun H locs hP hD hS => ?_)
      have hP : va_P dD vwCl [(m0, .inr (3, [.int (nI 0), .int (nI (s_now σ)), .ref (a 0), .int (nI (s_n σ)), .ref (a 1), .ref (a 2), .ref (a 3), .ref (a 4), .int (nI (s_tk σ)), .ref (a 5), .int (nI (s_k σ)), .ref (a 6), .ref (a 7), .ref (a 8)])), (a 0, .inl (cI, 6, .inl (fun j => nI (s_lt σ j)))), (a 1, .inl (cI, 200, .inl (fun j => nI (s_pr σ j)))), (a 2, .inl (cI, 200, .inl (fun j => nI (s_ev σ j)))), (a 3, .inl (cI, 200, .inl (fun j => nI (s_ar σ j)))), (a 4, .inl (cI, 200, .inl (fun j => nI (s_vl σ j)))), (a 5, .inl (cI, 60, .inl (fun j => nI (s_cp σ j)))), (a 6, .inl (cI, 200, .inl (fun j => nI ((uN (s_sp σ) (s_k σ) (10 * fn + en)) j)))), (a 7, .inl (cI, 200, .inl (fun j => nI ((uN (s_sa σ) (s_k σ) (s_now σ)) j)))), (a 8, .inl (cI, 200, .inl (fun j => eN (s_sv σ j))))] H := hP
      have hD : va_D A [(m0, .inr (3, [.int (nI 0), .int (nI (s_now σ)), .ref (a 0), .int (nI (s_n σ)), .ref (a 1), .ref (a 2), .ref (a 3), .ref (a 4), .int (nI (s_tk σ)), .ref (a 5), .int (nI (s_k σ)), .ref (a 6), .ref (a 7), .ref (a 8)])), (a 0, .inl (cI, 6, .inl (fun j => nI (s_lt σ j)))), (a 1, .inl (cI, 200, .inl (fun j => nI (s_pr σ j)))), (a 2, .inl (cI, 200, .inl (fun j => nI (s_ev σ j)))), (a 3, .inl (cI, 200, .inl (fun j => nI (s_ar σ j)))), (a 4, .inl (cI, 200, .inl (fun j => nI (s_vl σ j)))), (a 5, .inl (cI, 60, .inl (fun j => nI (s_cp σ j)))), (a 6, .inl (cI, 200, .inl (fun j => nI ((uN (s_sp σ) (s_k σ) (10 * fn + en)) j)))), (a 7, .inl (cI, 200, .inl (fun j => nI ((uN (s_sa σ) (s_k σ) (s_now σ)) j)))), (a 8, .inl (cI, 200, .inl (fun j => eN (s_sv σ j))))] := hD
      refine lv_aload_n hx hb dX3_serve_69 rfl (lv_at hl 1 rfl) ?_
      refine va_get (D := dD) (ci := 3) (v := .ref (a 8)) (C := RX3) (T := TX3) (N := 14) hx hb hts hinX3 hown hK hP 0 rfl rfl 13 (by decide) (hts (.fieldLink RX3 34 "FeatureStoreModel" "served" "[I") (by decide +kernel)) (fun _ h9 => h9) rfl dX3_serve_70 ?_
      refine lv_aload_n hx hb dX3_serve_73 rfl (lv_at hl 1 rfl) ?_
      refine va_get (D := dD) (ci := 3) (v := .int (nI (s_k σ))) (C := RX3) (T := TX3) (N := 14) hx hb hts hinX3 hown hK hP 0 rfl rfl 10 (by decide) (hts (.fieldLink RX3 83 "FeatureStoreModel" "servings" "I") (by decide +kernel)) (fun _ h9 => h9) rfl dX3_serve_74 ?_
      refine lv_aload_n hx hb dX3_serve_77 rfl (lv_at hl 1 rfl) ?_
      refine lv_aload_n hx hb dX3_serve_78 rfl (lv_at hl 1 rfl) ?_
      refine va_get (D := dD) (ci := 3) (v := .ref (a 5)) (C := RX3) (T := TX3) (N := 14) hx hb hts hinX3 hown hK hP 0 rfl rfl 9 (by decide) (hts (.fieldLink RX3 25 "FeatureStoreModel" "copy" "[I") (by decide +kernel)) (fun _ h9 => h9) rfl dX3_serve_79 ?_
      refine lv_iload_n hx hb dX3_serve_82 rfl (lv_at hl 0 rfl) ?_
      refine nv_iald (q0 := 6) (t0 := 0) (s_cp σ) hx hb hK hP rfl rfl (by omega) (by decide) dX3_serve_83 ?_
      refine lv_iconst (v := nI 1) hx hb dX3_serve_84 (by decide +kernel) ?_
      refine nv_isubN hx hb dX3_serve_85 ?_
      refine lv_aload_n hx hb dX3_serve_86 rfl (lv_at hl 1 rfl) ?_
      refine va_get (D := dD) (ci := 3) (v := .int (nI (s_now σ))) (C := RX3) (T := TX3) (N := 14) hx hb hts hinX3 hown hK hP 0 rfl rfl 1 (by decide) (hts (.fieldLink RX3 49 "FeatureStoreModel" "now" "I") (by decide +kernel)) (fun _ h9 => h9) rfl dX3_serve_87 ?_
      have hI2 : sI (setS (setS σ 10 (uN (s_sp σ) (s_k σ) (10 * fn + en))) 11 (uN (s_sa σ) (s_k σ) (s_now σ))) := ⟨i_now, i_n, i_tk, i_k, i_lt, i_row, i_cp, sI_half i_srv⟩
      refine vp_callSi (va_Run.run (va_runV (As := [.int (eN (s_cp σ (10 * fn + en))), .int (nI (s_now σ))]) (rest := [.int (nI (s_k σ)), .ref (a 8)]) ⟨hx, hb, hml, hown, hts⟩ (c_X3_fresh l dD cI cR cS lo m0 a 0 (setS (setS σ 10 (uN (s_sp σ) (s_k σ) (10 * fn + en))) 11 (uN (s_sa σ) (s_k σ) (s_now σ))) hI2 (s_cp σ (10 * fn + en)) (s_now σ) (show s_cp σ (10 * fn + en) ≤ s_n σ by omega) (by omega)) (cwV 2 hts gX3_serve_X3_fresh rfl rfl rfl (by decide +kernel) ⟨Nat.le_of_ble_eq_true rfl, Nat.le_of_ble_eq_true rfl⟩) (ePreV hE (hS.mono hAlo) hP (k := 0) rfl rfl hP) rfl rfl hl.1 rfl (lv_room (Nat.le_of_ble_eq_true rfl)) dX3_serve_90 ⟨Nat.le_of_ble_eq_true rfl, Nat.le_of_ble_eq_true rfl⟩)) (fun r_90 hr_90 => ?_)
      have hr_90 : r_90 = eN (q_fr σ (s_cp σ (10 * fn + en)) (s_now σ)) := hr_90
      subst hr_90
      refine nv_east (q0 := 9) (t0 := 0) (s_sv σ) hx hb hK hP hD hS rfl rfl (by omega) (by decide) dX3_serve_93 (fun H locs hP hD hS => ?_)
      have hP : va_P dD vwCl [(m0, .inr (3, [.int (nI 0), .int (nI (s_now σ)), .ref (a 0), .int (nI (s_n σ)), .ref (a 1), .ref (a 2), .ref (a 3), .ref (a 4), .int (nI (s_tk σ)), .ref (a 5), .int (nI (s_k σ)), .ref (a 6), .ref (a 7), .ref (a 8)])), (a 0, .inl (cI, 6, .inl (fun j => nI (s_lt σ j)))), (a 1, .inl (cI, 200, .inl (fun j => nI (s_pr σ j)))), (a 2, .inl (cI, 200, .inl (fun j => nI (s_ev σ j)))), (a 3, .inl (cI, 200, .inl (fun j => nI (s_ar σ j)))), (a 4, .inl (cI, 200, .inl (fun j => nI (s_vl σ j)))), (a 5, .inl (cI, 60, .inl (fun j => nI (s_cp σ j)))), (a 6, .inl (cI, 200, .inl (fun j => nI ((uN (s_sp σ) (s_k σ) (10 * fn + en)) j)))), (a 7, .inl (cI, 200, .inl (fun j => nI ((uN (s_sa σ) (s_k σ) (s_now σ)) j)))), (a 8, .inl (cI, 200, .inl (fun j => eN ((uN (s_sv σ) (s_k σ) (q_fr σ (s_cp σ (10 * fn + en)) (s_now σ))) j))))] H := hP
      have hD : va_D A [(m0, .inr (3, [.int (nI 0), .int (nI (s_now σ)), .ref (a 0), .int (nI (s_n σ)), .ref (a 1), .ref (a 2), .ref (a 3), .ref (a 4), .int (nI (s_tk σ)), .ref (a 5), .int (nI (s_k σ)), .ref (a 6), .ref (a 7), .ref (a 8)])), (a 0, .inl (cI, 6, .inl (fun j => nI (s_lt σ j)))), (a 1, .inl (cI, 200, .inl (fun j => nI (s_pr σ j)))), (a 2, .inl (cI, 200, .inl (fun j => nI (s_ev σ j)))), (a 3, .inl (cI, 200, .inl (fun j => nI (s_ar σ j)))), (a 4, .inl (cI, 200, .inl (fun j => nI (s_vl σ j)))), (a 5, .inl (cI, 60, .inl (fun j => nI (s_cp σ j)))), (a 6, .inl (cI, 200, .inl (fun j => nI ((uN (s_sp σ) (s_k σ) (10 * fn + en)) j)))), (a 7, .inl (cI, 200, .inl (fun j => nI ((uN (s_sa σ) (s_k σ) (s_now σ)) j)))), (a 8, .inl (cI, 200, .inl (fun j => eN ((uN (s_sv σ) (s_k σ) (q_fr σ (s_cp σ (10 * fn + en)) (s_now σ))) j))))] := hD
      refine lv_aload_n hx hb dX3_serve_94 rfl (lv_at hl 1 rfl) ?_
      refine lv_dup hx hb dX3_serve_95 rfl ?_
      refine va_get (D := dD) (ci := 3) (v := .int (nI (s_k σ))) (C := RX3) (T := TX3) (N := 14) hx hb hts hinX3 hown hK hP 0 rfl rfl 10 (by decide) (hts (.fieldLink RX3 83 "FeatureStoreModel" "servings" "I") (by decide +kernel)) (fun _ h9 => h9) rfl dX3_serve_96 ?_
      refine lv_iconst (v := nI 1) hx hb dX3_serve_99 (by decide +kernel) ?_
      refine nv_iadd hx hb dX3_serve_100 ?_
      refine va_put (D := dD) (ci := 3) (v := .int (nI ((s_k σ) + 1))) (ty := .int) (C := RX3) (T := TX3) (N := 14) hx hb hts hinX3 tyX3 tyX3_ok nmX3 hown hK hP hD hS 0 rfl rfl 10 (by decide) (hts (.fieldLink RX3 83 "FeatureStoreModel" "servings" "I") (by decide +kernel)) (fun _ h9 => h9) rfl (by decide +kernel) rfl rfl (Nat.le_of_ble_eq_true rfl) dX3_serve_101 (fun H locs hP hD hS => ?_)
      have hP : va_P dD vwCl [(m0, .inr (3, [.int (nI 0), .int (nI (s_now σ)), .ref (a 0), .int (nI (s_n σ)), .ref (a 1), .ref (a 2), .ref (a 3), .ref (a 4), .int (nI (s_tk σ)), .ref (a 5), .int (nI ((s_k σ) + 1)), .ref (a 6), .ref (a 7), .ref (a 8)])), (a 0, .inl (cI, 6, .inl (fun j => nI (s_lt σ j)))), (a 1, .inl (cI, 200, .inl (fun j => nI (s_pr σ j)))), (a 2, .inl (cI, 200, .inl (fun j => nI (s_ev σ j)))), (a 3, .inl (cI, 200, .inl (fun j => nI (s_ar σ j)))), (a 4, .inl (cI, 200, .inl (fun j => nI (s_vl σ j)))), (a 5, .inl (cI, 60, .inl (fun j => nI (s_cp σ j)))), (a 6, .inl (cI, 200, .inl (fun j => nI ((uN (s_sp σ) (s_k σ) (10 * fn + en)) j)))), (a 7, .inl (cI, 200, .inl (fun j => nI ((uN (s_sa σ) (s_k σ) (s_now σ)) j)))), (a 8, .inl (cI, 200, .inl (fun j => eN ((uN (s_sv σ) (s_k σ) (q_fr σ (s_cp σ (10 * fn + en)) (s_now σ))) j))))] H := hP
      have hD : va_D A [(m0, .inr (3, [.int (nI 0), .int (nI (s_now σ)), .ref (a 0), .int (nI (s_n σ)), .ref (a 1), .ref (a 2), .ref (a 3), .ref (a 4), .int (nI (s_tk σ)), .ref (a 5), .int (nI ((s_k σ) + 1)), .ref (a 6), .ref (a 7), .ref (a 8)])), (a 0, .inl (cI, 6, .inl (fun j => nI (s_lt σ j)))), (a 1, .inl (cI, 200, .inl (fun j => nI (s_pr σ j)))), (a 2, .inl (cI, 200, .inl (fun j => nI (s_ev σ j)))), (a 3, .inl (cI, 200, .inl (fun j => nI (s_ar σ j)))), (a 4, .inl (cI, 200, .inl (fun j => nI (s_vl σ j)))), (a 5, .inl (cI, 60, .inl (fun j => nI (s_cp σ j)))), (a 6, .inl (cI, 200, .inl (fun j => nI ((uN (s_sp σ) (s_k σ) (10 * fn + en)) j)))), (a 7, .inl (cI, 200, .inl (fun j => nI ((uN (s_sa σ) (s_k σ) (s_now σ)) j)))), (a 8, .inl (cI, 200, .inl (fun j => eN ((uN (s_sv σ) (s_k σ) (q_fr σ (s_cp σ (10 * fn + en)) (s_now σ))) j))))] := hD
      refine lv_aload_n hx hb dX3_serve_104 rfl (lv_at hl 1 rfl) ?_
      refine va_get (D := dD) (ci := 3) (v := .ref (a 8)) (C := RX3) (T := TX3) (N := 14) hx hb hts hinX3 hown hK hP 0 rfl rfl 13 (by decide) (hts (.fieldLink RX3 34 "FeatureStoreModel" "served" "[I") (by decide +kernel)) (fun _ h9 => h9) rfl dX3_serve_105 ?_
      refine lv_aload_n hx hb dX3_serve_108 rfl (lv_at hl 1 rfl) ?_
      refine va_get (D := dD) (ci := 3) (v := .int (nI ((s_k σ) + 1))) (C := RX3) (T := TX3) (N := 14) hx hb hts hinX3 hown hK hP 0 rfl rfl 10 (by decide) (hts (.fieldLink RX3 83 "FeatureStoreModel" "servings" "I") (by decide +kernel)) (fun _ h9 => h9) rfl dX3_serve_109 ?_
      refine lv_iconst (v := nI 1) hx hb dX3_serve_112 (by decide +kernel) ?_
      refine nv_isub hx hb dX3_serve_113 (by omega) ?_
      refine nv_eald (q0 := 9) (t0 := 0) (uN (s_sv σ) (s_k σ) (q_fr σ (s_cp σ (10 * fn + en)) (s_now σ))) hx hb hK hP rfl rfl (by omega) (by decide) dX3_serve_114 ?_
      exact W.iret (v := eN (uN (s_sv σ) (s_k σ) (q_fr σ (s_cp σ (10 * fn + en)) (s_now σ)) (((s_k σ) + 1) - 1))) hx hb hr (fun u9 hu9 hW => ⟨⟨eN (uN (s_sv σ) (s_k σ) (q_fr σ (s_cp σ (10 * fn + en)) (s_now σ)) (((s_k σ) + 1) - 1)), (0, g_serve σ (10 * fn + en)), rfl, Or.inl ⟨hr_3, by omega, by rw [plN, cl_nI (by omega), cl_nI (by omega)], by rw [plN, cl_nI (by omega), cl_nI (by omega), show s_k σ + 1 - 1 = s_k σ from Nat.add_sub_cancel .., uN_s]⟩, by have h9 := hP; rw [← hu9] at h9; exact h9⟩, hS.F hu9⟩) hS.2.2 dX3_serve_115
    · refine lv_iconst (v := nI 2) hx hb dX3_serve_23 (by decide +kernel) ?_
      refine lv_goto (tgt := 28) hx hb dX3_serve_24 (by decide) ?_
      refine va_put (D := dD) (ci := 3) (v := .int (nI 2)) (ty := .int) (C := RX3) (T := TX3) (N := 14) hx hb hts hinX3 tyX3 tyX3_ok nmX3 hown hK hP hD hS 0 rfl rfl 0 (by decide) (hts (.fieldLink RX3 37 "FeatureStoreModel" "thrown" "I") (by decide +kernel)) (fun _ h9 => h9) rfl (by decide +kernel) rfl rfl (Nat.le_of_ble_eq_true rfl) dX3_serve_28 (fun H locs hP hD hS => ?_)
      have hP : va_P dD vwCl [(m0, .inr (3, [.int (nI 2), .int (nI (s_now σ)), .ref (a 0), .int (nI (s_n σ)), .ref (a 1), .ref (a 2), .ref (a 3), .ref (a 4), .int (nI (s_tk σ)), .ref (a 5), .int (nI (s_k σ)), .ref (a 6), .ref (a 7), .ref (a 8)])), (a 0, .inl (cI, 6, .inl (fun j => nI (s_lt σ j)))), (a 1, .inl (cI, 200, .inl (fun j => nI (s_pr σ j)))), (a 2, .inl (cI, 200, .inl (fun j => nI (s_ev σ j)))), (a 3, .inl (cI, 200, .inl (fun j => nI (s_ar σ j)))), (a 4, .inl (cI, 200, .inl (fun j => nI (s_vl σ j)))), (a 5, .inl (cI, 60, .inl (fun j => nI (s_cp σ j)))), (a 6, .inl (cI, 200, .inl (fun j => nI (s_sp σ j)))), (a 7, .inl (cI, 200, .inl (fun j => nI (s_sa σ j)))), (a 8, .inl (cI, 200, .inl (fun j => eN (s_sv σ j))))] H := hP
      have hD : va_D A [(m0, .inr (3, [.int (nI 2), .int (nI (s_now σ)), .ref (a 0), .int (nI (s_n σ)), .ref (a 1), .ref (a 2), .ref (a 3), .ref (a 4), .int (nI (s_tk σ)), .ref (a 5), .int (nI (s_k σ)), .ref (a 6), .ref (a 7), .ref (a 8)])), (a 0, .inl (cI, 6, .inl (fun j => nI (s_lt σ j)))), (a 1, .inl (cI, 200, .inl (fun j => nI (s_pr σ j)))), (a 2, .inl (cI, 200, .inl (fun j => nI (s_ev σ j)))), (a 3, .inl (cI, 200, .inl (fun j => nI (s_ar σ j)))), (a 4, .inl (cI, 200, .inl (fun j => nI (s_vl σ j)))), (a 5, .inl (cI, 60, .inl (fun j => nI (s_cp σ j)))), (a 6, .inl (cI, 200, .inl (fun j => nI (s_sp σ j)))), (a 7, .inl (cI, 200, .inl (fun j => nI (s_sa σ j)))), (a 8, .inl (cI, 200, .inl (fun j => eN (s_sv σ j))))] := hD
      refine lv_aload_n hx hb dX3_serve_31 rfl (lv_at hl 0 rfl) ?_
      refine va_get (D := dD) (ci := 3) (v := .int (nI 2)) (C := RX3) (T := TX3) (N := 14) hx hb hts hinX3 hown hK hP 0 rfl rfl 0 (by decide) (hts (.fieldLink RX3 37 "FeatureStoreModel" "thrown" "I") (by decide +kernel)) (fun _ h9 => h9) rfl dX3_serve_32 ?_
      refine nv_if_le (tgt := 40) hx hb dX3_serve_35 (by decide) (by decide) (fun c_35 => absurd c_35 (by decide)) (fun c_35 => ?_)
      refine lv_iconst (v := nI 0) hx hb dX3_serve_38 (by decide +kernel) ?_
      exact W.iret (v := nI 0) hx hb hr (fun u9 hu9 hW => ⟨⟨nI 0, (2, σ), rfl, Or.inr (Or.inr ⟨hr_3, by omega, rfl⟩), by have h9 := hP; rw [← hu9] at h9; exact h9⟩, hS.F hu9⟩) hS.2.2 dX3_serve_39
  · refine nv_if_ne (tgt := 13) hx hb dX3_serve_6 (by decide) (by decide) (fun c_6 => absurd c_6 (by decide)) (fun c_6 => ?_)
    refine lv_iconst (v := nI 1) hx hb dX3_serve_9 (by decide +kernel) ?_
    refine lv_goto (tgt := 28) hx hb dX3_serve_10 (by decide) ?_
    refine va_put (D := dD) (ci := 3) (v := .int (nI 1)) (ty := .int) (C := RX3) (T := TX3) (N := 14) hx hb hts hinX3 tyX3 tyX3_ok nmX3 hown hK hP hD hS 0 rfl rfl 0 (by decide) (hts (.fieldLink RX3 37 "FeatureStoreModel" "thrown" "I") (by decide +kernel)) (fun _ h9 => h9) rfl (by decide +kernel) rfl rfl (Nat.le_of_ble_eq_true rfl) dX3_serve_28 (fun H locs hP hD hS => ?_)
    have hP : va_P dD vwCl [(m0, .inr (3, [.int (nI 1), .int (nI (s_now σ)), .ref (a 0), .int (nI (s_n σ)), .ref (a 1), .ref (a 2), .ref (a 3), .ref (a 4), .int (nI (s_tk σ)), .ref (a 5), .int (nI (s_k σ)), .ref (a 6), .ref (a 7), .ref (a 8)])), (a 0, .inl (cI, 6, .inl (fun j => nI (s_lt σ j)))), (a 1, .inl (cI, 200, .inl (fun j => nI (s_pr σ j)))), (a 2, .inl (cI, 200, .inl (fun j => nI (s_ev σ j)))), (a 3, .inl (cI, 200, .inl (fun j => nI (s_ar σ j)))), (a 4, .inl (cI, 200, .inl (fun j => nI (s_vl σ j)))), (a 5, .inl (cI, 60, .inl (fun j => nI (s_cp σ j)))), (a 6, .inl (cI, 200, .inl (fun j => nI (s_sp σ j)))), (a 7, .inl (cI, 200, .inl (fun j => nI (s_sa σ j)))), (a 8, .inl (cI, 200, .inl (fun j => eN (s_sv σ j))))] H := hP
    have hD : va_D A [(m0, .inr (3, [.int (nI 1), .int (nI (s_now σ)), .ref (a 0), .int (nI (s_n σ)), .ref (a 1), .ref (a 2), .ref (a 3), .ref (a 4), .int (nI (s_tk σ)), .ref (a 5), .int (nI (s_k σ)), .ref (a 6), .ref (a 7), .ref (a 8)])), (a 0, .inl (cI, 6, .inl (fun j => nI (s_lt σ j)))), (a 1, .inl (cI, 200, .inl (fun j => nI (s_pr σ j)))), (a 2, .inl (cI, 200, .inl (fun j => nI (s_ev σ j)))), (a 3, .inl (cI, 200, .inl (fun j => nI (s_ar σ j)))), (a 4, .inl (cI, 200, .inl (fun j => nI (s_vl σ j)))), (a 5, .inl (cI, 60, .inl (fun j => nI (s_cp σ j)))), (a 6, .inl (cI, 200, .inl (fun j => nI (s_sp σ j)))), (a 7, .inl (cI, 200, .inl (fun j => nI (s_sa σ j)))), (a 8, .inl (cI, 200, .inl (fun j => eN (s_sv σ j))))] := hD
    refine lv_aload_n hx hb dX3_serve_31 rfl (lv_at hl 0 rfl) ?_
    refine va_get (D := dD) (ci := 3) (v := .int (nI 1)) (C := RX3) (T := TX3) (N := 14) hx hb hts hinX3 hown hK hP 0 rfl rfl 0 (by decide) (hts (.fieldLink RX3 37 "FeatureStoreModel" "thrown" "I") (by decide +kernel)) (fun _ h9 => h9) rfl dX3_serve_32 ?_
    refine nv_if_le (tgt := 40) hx hb dX3_serve_35 (by decide) (by decide) (fun c_35 => absurd c_35 (by decide)) (fun c_35 => ?_)
    refine lv_iconst (v := nI 0) hx hb dX3_serve_38 (by decide +kernel) ?_
    exact W.iret (v := nI 0) hx hb hr (fun u9 hu9 hW => ⟨⟨nI 0, (1, σ), rfl, Or.inr (Or.inl ⟨hr_3, rfl⟩), by have h9 := hP; rw [← hu9] at h9; exact h9⟩, hS.F hu9⟩) hS.2.2 dX3_serve_39
