/-! the reference: take (laid by wip/whole/gen/x3wr4.py) -/
set_option maxHeartbeats 4000000 in
set_option maxRecDepth 100000 in
theorem c_X3_take (l : Launch) (dD : va_G) (cI cR cS : ClassId) (lo : Nat) (sz : Nat) (hlo : lo ≤ sz) (m0 : Nat) (a : Nat → Nat) (th : Nat) (σ : St) (hI : sI σ) (x : Int32) : Met l yX3_take wsX3_take ({ frames := 1, cells := 0, slots := 0, locals := 22 }) (ePc dD cI cR cS lo [.ref m0, .int x] (fun H => H.size = sz ∧ va_P dD vwCl (mW cI m0 a th σ) H ∧ va_D (fun q => lo ≤ q) (mW cI m0 a th σ))) (va_Qi (fun (r : Int32) (u : Nat × St) => R3 (rg x 1 200) True σ (q_take σ (g_m σ (cl x))) (nI (g_m σ (cl x))) r u) (fun u t => va_P dD vwCl (mW cI m0 a u.1 u.2) t.heap) (va_A (mW cI m0 a th σ) sz)) 0 0 (va_A (mW cI m0 a th σ) sz) := by
  refine Met.ofW (cc := cX3_take) (maxL := 4) (ret := (some .int)) (by decide) rfl ?_
  intro p e_ s m args below meth c s₁ B hml hv
  obtain ⟨rfl, hE, hsz, hP, hD0⟩ := hv
  have hx := B.exec
  have hb := B.bytes
  have hr := B.returns
  have hts := atoms_spec (ws := wsX3_take) B.pre
  have hown : s.vm.findClass RX3 = some m.cls := findClass_of_methodNamed B.named
  have hlocks := B.notSynchronized
  have hK := hE.1.1
  have hinX3 : ∀ w ∈ u_ws RX3 TX3 14, w ∈ wsX3_take := by decide +kernel
  subst hsz
  have hD := hD0.self (sz := s.heap.size)
  have hAlo : ∀ q, va_A (mW cI m0 a th σ) s.heap.size q → lo ≤ q := eA_lo hD0 hlo
  generalize hAe : va_A (mW cI m0 a th σ) s.heap.size = A at hD hAlo ⊢
  have hA : ∀ q : Nat, s.heap.size ≤ q → A q := fun q h => by rw [← hAe]; exact Or.inr h
  have hS : va_S A s.heap s.heap [] := va_S.rf
  have hP : va_P dD vwCl (mW cI m0 a th σ) s.heap := hP
  obtain ⟨i_now, i_n, i_tk, i_k, i_lt, i_row, i_cp, i_srv⟩ := id hI
  have hl := lv_entry ([.ref m0, .int x]) (n := 4) (Nat.le_of_ble_eq_true rfl)
  rw [lg_entry_eq]
  generalize (lg_sl ([.ref m0, .int x]) ++ List.replicate (4 - (lg_sl ([.ref m0, .int x])).length) Slot.unset).toArray = ls at hl ⊢
  have hl : lv_has ls 4 [(0, .ref m0), (1, .int x)] := hl
  refine lv_aload_n hx hb dX3_take_0 rfl (lv_at hl 0 rfl) ?_
  refine lv_iload_n hx hb dX3_take_1 rfl (lv_at hl 1 rfl) ?_
  refine lv_iconst (v := nI 1) hx hb dX3_take_2 (by decide +kernel) ?_
  refine lv_sipush (v := nI 200) hx hb dX3_take_3 (by decide +kernel) ?_
  refine vp_callSi (va_Run.run (va_runS (As := [.int x, .int (nI 1), .int (nI 200)]) (rest := [.ref m0]) ⟨hx, hb, hml, hown, hts⟩ (c_X3_in l dD cI cR cS lo x (nI 1) (nI 200)) (va_cwS 3 hts gX3_take_X3_in rfl rfl rfl (by decide +kernel) ⟨Nat.le_of_ble_eq_true rfl, Nat.le_of_ble_eq_true rfl⟩) (ePreS hE (hS.mono hAlo) trivial) rfl rfl hl.1 rfl (lv_room (Nat.le_of_ble_eq_true rfl)) dX3_take_6 ⟨Nat.le_of_ble_eq_true rfl, Nat.le_of_ble_eq_true rfl⟩)) (fun r_6 hr_6 => ?_)
  rcases hr_6 with ⟨rfl, hr_6⟩ | ⟨rfl, hr_6⟩
  · obtain ⟨cn, hcn1, hcn2, rfl⟩ := rg_of (by decide) (by decide) (hr_6)
    refine nv_if_eq (tgt := 16) hx hb dX3_take_9 (by decide) (by decide) (fun c_9 => absurd c_9 (by decide)) (fun c_9 => ?_)
    refine lv_iconst (v := nI 0) hx hb dX3_take_12 (by decide +kernel) ?_
    refine lv_goto (tgt := 17) hx hb dX3_take_13 (by decide) ?_
    refine va_put (D := dD) (ci := 3) (v := .int (nI 0)) (ty := .int) (C := RX3) (T := TX3) (N := 14) hx hb hts hinX3 tyX3 tyX3_ok nmX3 hown hK hP hD hS 0 rfl rfl 0 (by decide) (hts (.fieldLink RX3 37 "FeatureStoreModel" "thrown" "I") (by decide +kernel)) (fun _ h9 => h9) rfl (by decide +kernel) rfl rfl (Nat.le_of_ble_eq_true rfl) dX3_take_17 (fun H locs hP hD hS => ?_)
    have hP : va_P dD vwCl [(m0, .inr (3, [.int (nI 0), .int (nI (s_now σ)), .ref (a 0), .int (nI (s_n σ)), .ref (a 1), .ref (a 2), .ref (a 3), .ref (a 4), .int (nI (s_tk σ)), .ref (a 5), .int (nI (s_k σ)), .ref (a 6), .ref (a 7), .ref (a 8)])), (a 0, .inl (cI, 6, .inl (fun j => nI (s_lt σ j)))), (a 1, .inl (cI, 200, .inl (fun j => nI (s_pr σ j)))), (a 2, .inl (cI, 200, .inl (fun j => nI (s_ev σ j)))), (a 3, .inl (cI, 200, .inl (fun j => nI (s_ar σ j)))), (a 4, .inl (cI, 200, .inl (fun j => nI (s_vl σ j)))), (a 5, .inl (cI, 60, .inl (fun j => nI (s_cp σ j)))), (a 6, .inl (cI, 200, .inl (fun j => nI (s_sp σ j)))), (a 7, .inl (cI, 200, .inl (fun j => nI (s_sa σ j)))), (a 8, .inl (cI, 200, .inl (fun j => eN (s_sv σ j))))] H := hP
    have hD : va_D A [(m0, .inr (3, [.int (nI 0), .int (nI (s_now σ)), .ref (a 0), .int (nI (s_n σ)), .ref (a 1), .ref (a 2), .ref (a 3), .ref (a 4), .int (nI (s_tk σ)), .ref (a 5), .int (nI (s_k σ)), .ref (a 6), .ref (a 7), .ref (a 8)])), (a 0, .inl (cI, 6, .inl (fun j => nI (s_lt σ j)))), (a 1, .inl (cI, 200, .inl (fun j => nI (s_pr σ j)))), (a 2, .inl (cI, 200, .inl (fun j => nI (s_ev σ j)))), (a 3, .inl (cI, 200, .inl (fun j => nI (s_ar σ j)))), (a 4, .inl (cI, 200, .inl (fun j => nI (s_vl σ j)))), (a 5, .inl (cI, 60, .inl (fun j => nI (s_cp σ j)))), (a 6, .inl (cI, 200, .inl (fun j => nI (s_sp σ j)))), (a 7, .inl (cI, 200, .inl (fun j => nI (s_sa σ j)))), (a 8, .inl (cI, 200, .inl (fun j => eN (s_sv σ j))))] := hD
    refine lv_iconst (v := nI 0) hx hb dX3_take_20 (by decide +kernel) ?_
    refine lv_istore_n (lv' := [(2, .int (nI 0)), (0, .ref m0), (1, .int (nI cn))]) hx hb dX3_take_21 rfl hl (by decide) rfl (fun ls hl => ?_)
    have hlp : ∀ (d c_ : Nat) (σ2 : St), σ2 = q_take σ c_ → sI σ2 → s_tk σ2 = s_tk σ + c_ → s_n σ2 = s_n σ → c_ ≤ cn → s_n σ + 1 ≤ s_tk σ + c_ + d → ∀ (H : Heap) (locs : List Loc), va_P dD vwCl (mW cI m0 a 0 σ2) H → va_D A (mW cI m0 a 0 σ2) → va_S A s.heap H locs → ∀ (ls : Array Slot), lv_has ls 4 [(0, .ref m0), (1, .int (nI cn)), (2, .int (nI c_))] → W p l e_ (headSpec wsX3_take ({ frames := 1, cells := 0, slots := 0, locals := 22 })).room s m (([.ref m0, .int (nI cn)] : List Value).toArray) below meth c H locs 0 0 (MQ below (va_Qi (fun (r : Int32) (u : Nat × St) => R3 (rg (nI cn) 1 200) True σ (q_take σ (g_m σ (cl (nI cn)))) (nI (g_m σ (cl (nI cn)))) r u) (fun u t => va_P dD vwCl (mW cI m0 a u.1 u.2) t.heap) A) (([.ref m0, .int (nI cn)] : List Value).toArray) s 0 0 A) (F0 m 22 ls []) := by
      intro d
      induction d with
      | zero =>
        intro c_ σ2 hq_ hI2 ht_ hn_ hc_ hd_ H locs hP hD hS ls hl
        exact absurd hI2.2.2.1 (by omega)
      | succ d ih =>
        intro c_ σ2 hq_ hI2 ht_ hn_ hc_ hd_ H locs hP hD hS ls hl
        obtain ⟨i_now, i_n, i_tk, i_k, i_lt, i_row, i_cp, i_srv⟩ := id hI2
        refine lv_aload_n hx hb dX3_take_22 rfl (lv_at hl 0 rfl) ?_
        refine va_get (D := dD) (ci := 3) (v := .int (nI 0)) (C := RX3) (T := TX3) (N := 14) hx hb hts hinX3 hown hK hP 0 rfl rfl 0 (by decide) (hts (.fieldLink RX3 37 "FeatureStoreModel" "thrown" "I") (by decide +kernel)) (fun _ h9 => h9) rfl dX3_take_23 ?_
        refine nv_if_ne (tgt := 121) hx hb dX3_take_26 (by decide) (by decide) (fun c_26 => absurd c_26 (by decide)) (fun c_26 => ?_)
        refine lv_iload_n hx hb dX3_take_29 rfl (lv_at hl 2 rfl) ?_
        refine lv_iload_n hx hb dX3_take_30 rfl (lv_at hl 1 rfl) ?_
        refine nv_ge (tgt := 121) hx hb dX3_take_31 (by decide) (by omega) (by omega) (fun c_31 => ?_) (fun c_31 => ?_)
        · refine lv_iload_n hx hb dX3_take_121 rfl (lv_at hl 2 rfl) ?_
          exact W.iret (v := nI c_) hx hb hr (fun u9 hu9 hW => ⟨⟨nI c_, (0, σ2), rfl, Or.inl ⟨hr_6, trivial, by rw [cl_nI (by omega), show g_m σ cn = c_ from by unfold g_m; omega, ← hq_], by rw [cl_nI (by omega), show g_m σ cn = c_ from by unfold g_m; omega]⟩, by have h9 := hP; rw [← hu9] at h9; exact h9⟩, hS.F hu9⟩) hS.2.2 dX3_take_122
        · refine lv_aload_n hx hb dX3_take_34 rfl (lv_at hl 0 rfl) ?_
          refine va_get (D := dD) (ci := 3) (v := .int (nI (s_tk σ2))) (C := RX3) (T := TX3) (N := 14) hx hb hts hinX3 hown hK hP 0 rfl rfl 8 (by decide) (hts (.fieldLink RX3 80 "FeatureStoreModel" "taken" "I") (by decide +kernel)) (fun _ h9 => h9) rfl dX3_take_35 ?_
          refine lv_aload_n hx hb dX3_take_38 rfl (lv_at hl 0 rfl) ?_
          refine va_get (D := dD) (ci := 3) (v := .int (nI (s_n σ2))) (C := RX3) (T := TX3) (N := 14) hx hb hts hinX3 hown hK hP 0 rfl rfl 3 (by decide) (hts (.fieldLink RX3 53 "FeatureStoreModel" "rows" "I") (by decide +kernel)) (fun _ h9 => h9) rfl dX3_take_39 ?_
          refine nv_ge (tgt := 121) hx hb dX3_take_42 (by decide) (by omega) (by omega) (fun c_42 => ?_) (fun c_42 => ?_)
          · refine lv_iload_n hx hb dX3_take_121 rfl (lv_at hl 2 rfl) ?_
            exact W.iret (v := nI c_) hx hb hr (fun u9 hu9 hW => ⟨⟨nI c_, (0, σ2), rfl, Or.inl ⟨hr_6, trivial, by rw [cl_nI (by omega), show g_m σ cn = c_ from by unfold g_m; omega, ← hq_], by rw [cl_nI (by omega), show g_m σ cn = c_ from by unfold g_m; omega]⟩, by have h9 := hP; rw [← hu9] at h9; exact h9⟩, hS.F hu9⟩) hS.2.2 dX3_take_122
          · have hz_t : s_tk σ2 < s_n σ2 := by omega
            obtain ⟨hz_1, hz_2, hz_3, hz_4⟩ := i_row (s_tk σ2) hz_t
            obtain ⟨hz_5, hz_6⟩ := i_cp (s_pr σ2 (s_tk σ2)) hz_1
            refine lv_aload_n hx hb dX3_take_45 rfl (lv_at hl 0 rfl) ?_
            refine va_get (D := dD) (ci := 3) (v := .ref (a 5)) (C := RX3) (T := TX3) (N := 14) hx hb hts hinX3 hown hK hP 0 rfl rfl 9 (by decide) (hts (.fieldLink RX3 25 "FeatureStoreModel" "copy" "[I") (by decide +kernel)) (fun _ h9 => h9) rfl dX3_take_46 ?_
            refine lv_aload_n hx hb dX3_take_49 rfl (lv_at hl 0 rfl) ?_
            refine va_get (D := dD) (ci := 3) (v := .ref (a 1)) (C := RX3) (T := TX3) (N := 14) hx hb hts hinX3 hown hK hP 0 rfl rfl 4 (by decide) (hts (.fieldLink RX3 13 "FeatureStoreModel" "pair" "[I") (by decide +kernel)) (fun _ h9 => h9) rfl dX3_take_50 ?_
            refine lv_aload_n hx hb dX3_take_53 rfl (lv_at hl 0 rfl) ?_
            refine va_get (D := dD) (ci := 3) (v := .int (nI (s_tk σ2))) (C := RX3) (T := TX3) (N := 14) hx hb hts hinX3 hown hK hP 0 rfl rfl 8 (by decide) (hts (.fieldLink RX3 80 "FeatureStoreModel" "taken" "I") (by decide +kernel)) (fun _ h9 => h9) rfl dX3_take_54 ?_
            refine nv_iald (q0 := 2) (t0 := 0) (s_pr σ2) hx hb hK hP rfl rfl (by omega) (by decide) dX3_take_57 ?_
            refine nv_iald (q0 := 6) (t0 := 0) (s_cp σ2) hx hb hK hP rfl rfl (by omega) (by decide) dX3_take_58 ?_
            refine lv_iconst (v := nI 1) hx hb dX3_take_59 (by decide +kernel) ?_
            refine nv_isubN hx hb dX3_take_60 ?_
            refine lv_istore_n (lv' := [(3, .int (eN (s_cp σ2 (s_pr σ2 (s_tk σ2))))), (0, .ref m0), (1, .int (nI cn)), (2, .int (nI c_))]) hx hb dX3_take_61 rfl hl (by decide) rfl (fun ls hl => ?_)
            refine lv_iload_n hx hb dX3_take_62 rfl (lv_at hl 0 rfl) ?_
            refine lv_iconst (v := (-1)) hx hb dX3_take_63 (by decide +kernel) ?_
            refine nv_eqNone (tgt := 85) hx hb dX3_take_64 (by decide) (by omega) (fun c_64 => ?_) (fun c_64 => ?_)
            · refine lv_aload_n hx hb dX3_take_85 rfl (lv_at hl 1 rfl) ?_
              refine va_get (D := dD) (ci := 3) (v := .ref (a 5)) (C := RX3) (T := TX3) (N := 14) hx hb hts hinX3 hown hK hP 0 rfl rfl 9 (by decide) (hts (.fieldLink RX3 25 "FeatureStoreModel" "copy" "[I") (by decide +kernel)) (fun _ h9 => h9) rfl dX3_take_86 ?_
              refine lv_aload_n hx hb dX3_take_89 rfl (lv_at hl 1 rfl) ?_
              refine va_get (D := dD) (ci := 3) (v := .ref (a 1)) (C := RX3) (T := TX3) (N := 14) hx hb hts hinX3 hown hK hP 0 rfl rfl 4 (by decide) (hts (.fieldLink RX3 13 "FeatureStoreModel" "pair" "[I") (by decide +kernel)) (fun _ h9 => h9) rfl dX3_take_90 ?_
              refine lv_aload_n hx hb dX3_take_93 rfl (lv_at hl 1 rfl) ?_
              refine va_get (D := dD) (ci := 3) (v := .int (nI (s_tk σ2))) (C := RX3) (T := TX3) (N := 14) hx hb hts hinX3 hown hK hP 0 rfl rfl 8 (by decide) (hts (.fieldLink RX3 80 "FeatureStoreModel" "taken" "I") (by decide +kernel)) (fun _ h9 => h9) rfl dX3_take_94 ?_
              refine nv_iald (q0 := 2) (t0 := 0) (s_pr σ2) hx hb hK hP rfl rfl (by omega) (by decide) dX3_take_97 ?_
              refine lv_aload_n hx hb dX3_take_98 rfl (lv_at hl 1 rfl) ?_
              refine va_get (D := dD) (ci := 3) (v := .int (nI (s_tk σ2))) (C := RX3) (T := TX3) (N := 14) hx hb hts hinX3 hown hK hP 0 rfl rfl 8 (by decide) (hts (.fieldLink RX3 80 "FeatureStoreModel" "taken" "I") (by decide +kernel)) (fun _ h9 => h9) rfl dX3_take_99 ?_
              refine lv_iconst (v := nI 1) hx hb dX3_take_102 (by decide +kernel) ?_
              refine nv_iadd hx hb dX3_take_103 ?_
              refine nv_iast (q0 := 6) (t0 := 0) (s_cp σ2) hx hb hK hP hD hS rfl rfl (by omega) (by decide) dX3_take_104 (fun H locs hP hD hS => ?_)
              have hP : va_P dD vwCl [(m0, .inr (3, [.int (nI 0), .int (nI (s_now σ2)), .ref (a 0), .int (nI (s_n σ2)), .ref (a 1), .ref (a 2), .ref (a 3), .ref (a 4), .int (nI (s_tk σ2)), .ref (a 5), .int (nI (s_k σ2)), .ref (a 6), .ref (a 7), .ref (a 8)])), (a 0, .inl (cI, 6, .inl (fun j => nI (s_lt σ2 j)))), (a 1, .inl (cI, 200, .inl (fun j => nI (s_pr σ2 j)))), (a 2, .inl (cI, 200, .inl (fun j => nI (s_ev σ2 j)))), (a 3, .inl (cI, 200, .inl (fun j => nI (s_ar σ2 j)))), (a 4, .inl (cI, 200, .inl (fun j => nI (s_vl σ2 j)))), (a 5, .inl (cI, 60, .inl (fun j => nI ((uN (s_cp σ2) (s_pr σ2 (s_tk σ2)) ((s_tk σ2) + 1)) j)))), (a 6, .inl (cI, 200, .inl (fun j => nI (s_sp σ2 j)))), (a 7, .inl (cI, 200, .inl (fun j => nI (s_sa σ2 j)))), (a 8, .inl (cI, 200, .inl (fun j => eN (s_sv σ2 j))))] H := hP
              have hD : va_D A [(m0, .inr (3, [.int (nI 0), .int (nI (s_now σ2)), .ref (a 0), .int (nI (s_n σ2)), .ref (a 1), .ref (a 2), .ref (a 3), .ref (a 4), .int (nI (s_tk σ2)), .ref (a 5), .int (nI (s_k σ2)), .ref (a 6), .ref (a 7), .ref (a 8)])), (a 0, .inl (cI, 6, .inl (fun j => nI (s_lt σ2 j)))), (a 1, .inl (cI, 200, .inl (fun j => nI (s_pr σ2 j)))), (a 2, .inl (cI, 200, .inl (fun j => nI (s_ev σ2 j)))), (a 3, .inl (cI, 200, .inl (fun j => nI (s_ar σ2 j)))), (a 4, .inl (cI, 200, .inl (fun j => nI (s_vl σ2 j)))), (a 5, .inl (cI, 60, .inl (fun j => nI ((uN (s_cp σ2) (s_pr σ2 (s_tk σ2)) ((s_tk σ2) + 1)) j)))), (a 6, .inl (cI, 200, .inl (fun j => nI (s_sp σ2 j)))), (a 7, .inl (cI, 200, .inl (fun j => nI (s_sa σ2 j)))), (a 8, .inl (cI, 200, .inl (fun j => eN (s_sv σ2 j))))] := hD
              refine lv_aload_n hx hb dX3_take_105 rfl (lv_at hl 1 rfl) ?_
              refine lv_dup hx hb dX3_take_106 rfl ?_
              refine va_get (D := dD) (ci := 3) (v := .int (nI (s_tk σ2))) (C := RX3) (T := TX3) (N := 14) hx hb hts hinX3 hown hK hP 0 rfl rfl 8 (by decide) (hts (.fieldLink RX3 80 "FeatureStoreModel" "taken" "I") (by decide +kernel)) (fun _ h9 => h9) rfl dX3_take_107 ?_
              refine lv_iconst (v := nI 1) hx hb dX3_take_110 (by decide +kernel) ?_
              refine nv_iadd hx hb dX3_take_111 ?_
              refine va_put (D := dD) (ci := 3) (v := .int (nI ((s_tk σ2) + 1))) (ty := .int) (C := RX3) (T := TX3) (N := 14) hx hb hts hinX3 tyX3 tyX3_ok nmX3 hown hK hP hD hS 0 rfl rfl 8 (by decide) (hts (.fieldLink RX3 80 "FeatureStoreModel" "taken" "I") (by decide +kernel)) (fun _ h9 => h9) rfl (by decide +kernel) rfl rfl (Nat.le_of_ble_eq_true rfl) dX3_take_112 (fun H locs hP hD hS => ?_)
              have hP : va_P dD vwCl [(m0, .inr (3, [.int (nI 0), .int (nI (s_now σ2)), .ref (a 0), .int (nI (s_n σ2)), .ref (a 1), .ref (a 2), .ref (a 3), .ref (a 4), .int (nI ((s_tk σ2) + 1)), .ref (a 5), .int (nI (s_k σ2)), .ref (a 6), .ref (a 7), .ref (a 8)])), (a 0, .inl (cI, 6, .inl (fun j => nI (s_lt σ2 j)))), (a 1, .inl (cI, 200, .inl (fun j => nI (s_pr σ2 j)))), (a 2, .inl (cI, 200, .inl (fun j => nI (s_ev σ2 j)))), (a 3, .inl (cI, 200, .inl (fun j => nI (s_ar σ2 j)))), (a 4, .inl (cI, 200, .inl (fun j => nI (s_vl σ2 j)))), (a 5, .inl (cI, 60, .inl (fun j => nI ((uN (s_cp σ2) (s_pr σ2 (s_tk σ2)) ((s_tk σ2) + 1)) j)))), (a 6, .inl (cI, 200, .inl (fun j => nI (s_sp σ2 j)))), (a 7, .inl (cI, 200, .inl (fun j => nI (s_sa σ2 j)))), (a 8, .inl (cI, 200, .inl (fun j => eN (s_sv σ2 j))))] H := hP
              have hD : va_D A [(m0, .inr (3, [.int (nI 0), .int (nI (s_now σ2)), .ref (a 0), .int (nI (s_n σ2)), .ref (a 1), .ref (a 2), .ref (a 3), .ref (a 4), .int (nI ((s_tk σ2) + 1)), .ref (a 5), .int (nI (s_k σ2)), .ref (a 6), .ref (a 7), .ref (a 8)])), (a 0, .inl (cI, 6, .inl (fun j => nI (s_lt σ2 j)))), (a 1, .inl (cI, 200, .inl (fun j => nI (s_pr σ2 j)))), (a 2, .inl (cI, 200, .inl (fun j => nI (s_ev σ2 j)))), (a 3, .inl (cI, 200, .inl (fun j => nI (s_ar σ2 j)))), (a 4, .inl (cI, 200, .inl (fun j => nI (s_vl σ2 j)))), (a 5, .inl (cI, 60, .inl (fun j => nI ((uN (s_cp σ2) (s_pr σ2 (s_tk σ2)) ((s_tk σ2) + 1)) j)))), (a 6, .inl (cI, 200, .inl (fun j => nI (s_sp σ2 j)))), (a 7, .inl (cI, 200, .inl (fun j => nI (s_sa σ2 j)))), (a 8, .inl (cI, 200, .inl (fun j => eN (s_sv σ2 j))))] := hD
              refine lv_iinc (v := nI (c_ + 1)) (lv' := [(2, .int (nI (c_ + 1))), (3, .int (eN (s_cp σ2 (s_pr σ2 (s_tk σ2))))), (0, .ref m0), (1, .int (nI cn))]) hx hb dX3_take_115 hl (k := 3) rfl (nv_inc _ 1) (by decide) rfl (fun ls hl => ?_)
              refine lv_goto (tgt := 22) hx hb dX3_take_118 (by decide) ?_
              have e1 : q_take1 σ2 = setS (setS σ2 9 (uN (s_cp σ2) (s_pr σ2 (s_tk σ2)) (s_tk σ2 + 1))) 2 (fun _ => s_tk σ2 + 1) := by unfold q_take1; rw [if_pos (Or.inl c_64)]
              exact ih (c_ + 1) (q_take1 σ2) (congrArg q_take1 hq_) (sI_take1 hI2 hz_t) (by rw [tk1_2]; omega) (by rw [tk1_1]; omega) (by omega) (by omega) H locs (by rw [e1]; exact hP) (va_D_fst hD rfl) hS ls (lv_sub hl [2, 3, 0] rfl)
            · have hl : lv_has ls 4 [(3, .int (nI (s_cp σ2 (s_pr σ2 (s_tk σ2)) - 1))), (0, .ref m0), (1, .int (nI cn)), (2, .int (nI c_))] := by rw [← eN_pos c_64]; exact hl
              obtain ⟨hy_1, hy_2, hy_3, hy_4⟩ := i_row (s_cp σ2 (s_pr σ2 (s_tk σ2)) - 1) (by omega)
              refine lv_aload_n hx hb dX3_take_67 rfl (lv_at hl 1 rfl) ?_
              refine va_get (D := dD) (ci := 3) (v := .ref (a 2)) (C := RX3) (T := TX3) (N := 14) hx hb hts hinX3 hown hK hP 0 rfl rfl 5 (by decide) (hts (.fieldLink RX3 16 "FeatureStoreModel" "event" "[I") (by decide +kernel)) (fun _ h9 => h9) rfl dX3_take_68 ?_
              refine lv_iload_n hx hb dX3_take_71 rfl (lv_at hl 0 rfl) ?_
              refine nv_iald (q0 := 3) (t0 := 0) (s_ev σ2) hx hb hK hP rfl rfl (by omega) (by decide) dX3_take_72 ?_
              refine lv_aload_n hx hb dX3_take_73 rfl (lv_at hl 1 rfl) ?_
              refine va_get (D := dD) (ci := 3) (v := .ref (a 2)) (C := RX3) (T := TX3) (N := 14) hx hb hts hinX3 hown hK hP 0 rfl rfl 5 (by decide) (hts (.fieldLink RX3 16 "FeatureStoreModel" "event" "[I") (by decide +kernel)) (fun _ h9 => h9) rfl dX3_take_74 ?_
              refine lv_aload_n hx hb dX3_take_77 rfl (lv_at hl 1 rfl) ?_
              refine va_get (D := dD) (ci := 3) (v := .int (nI (s_tk σ2))) (C := RX3) (T := TX3) (N := 14) hx hb hts hinX3 hown hK hP 0 rfl rfl 8 (by decide) (hts (.fieldLink RX3 80 "FeatureStoreModel" "taken" "I") (by decide +kernel)) (fun _ h9 => h9) rfl dX3_take_78 ?_
              refine nv_iald (q0 := 3) (t0 := 0) (s_ev σ2) hx hb hK hP rfl rfl (by omega) (by decide) dX3_take_81 ?_
              refine nv_gt (tgt := 105) hx hb dX3_take_82 (by decide) (by omega) (by omega) (fun c_82 => ?_) (fun c_82 => ?_)
              · refine lv_aload_n hx hb dX3_take_105 rfl (lv_at hl 1 rfl) ?_
                refine lv_dup hx hb dX3_take_106 rfl ?_
                refine va_get (D := dD) (ci := 3) (v := .int (nI (s_tk σ2))) (C := RX3) (T := TX3) (N := 14) hx hb hts hinX3 hown hK hP 0 rfl rfl 8 (by decide) (hts (.fieldLink RX3 80 "FeatureStoreModel" "taken" "I") (by decide +kernel)) (fun _ h9 => h9) rfl dX3_take_107 ?_
                refine lv_iconst (v := nI 1) hx hb dX3_take_110 (by decide +kernel) ?_
                refine nv_iadd hx hb dX3_take_111 ?_
                refine va_put (D := dD) (ci := 3) (v := .int (nI ((s_tk σ2) + 1))) (ty := .int) (C := RX3) (T := TX3) (N := 14) hx hb hts hinX3 tyX3 tyX3_ok nmX3 hown hK hP hD hS 0 rfl rfl 8 (by decide) (hts (.fieldLink RX3 80 "FeatureStoreModel" "taken" "I") (by decide +kernel)) (fun _ h9 => h9) rfl (by decide +kernel) rfl rfl (Nat.le_of_ble_eq_true rfl) dX3_take_112 (fun H locs hP hD hS => ?_)
                have hP : va_P dD vwCl [(m0, .inr (3, [.int (nI 0), .int (nI (s_now σ2)), .ref (a 0), .int (nI (s_n σ2)), .ref (a 1), .ref (a 2), .ref (a 3), .ref (a 4), .int (nI ((s_tk σ2) + 1)), .ref (a 5), .int (nI (s_k σ2)), .ref (a 6), .ref (a 7), .ref (a 8)])), (a 0, .inl (cI, 6, .inl (fun j => nI (s_lt σ2 j)))), (a 1, .inl (cI, 200, .inl (fun j => nI (s_pr σ2 j)))), (a 2, .inl (cI, 200, .inl (fun j => nI (s_ev σ2 j)))), (a 3, .inl (cI, 200, .inl (fun j => nI (s_ar σ2 j)))), (a 4, .inl (cI, 200, .inl (fun j => nI (s_vl σ2 j)))), (a 5, .inl (cI, 60, .inl (fun j => nI (s_cp σ2 j)))), (a 6, .inl (cI, 200, .inl (fun j => nI (s_sp σ2 j)))), (a 7, .inl (cI, 200, .inl (fun j => nI (s_sa σ2 j)))), (a 8, .inl (cI, 200, .inl (fun j => eN (s_sv σ2 j))))] H := hP
                have hD : va_D A [(m0, .inr (3, [.int (nI 0), .int (nI (s_now σ2)), .ref (a 0), .int (nI (s_n σ2)), .ref (a 1), .ref (a 2), .ref (a 3), .ref (a 4), .int (nI ((s_tk σ2) + 1)), .ref (a 5), .int (nI (s_k σ2)), .ref (a 6), .ref (a 7), .ref (a 8)])), (a 0, .inl (cI, 6, .inl (fun j => nI (s_lt σ2 j)))), (a 1, .inl (cI, 200, .inl (fun j => nI (s_pr σ2 j)))), (a 2, .inl (cI, 200, .inl (fun j => nI (s_ev σ2 j)))), (a 3, .inl (cI, 200, .inl (fun j => nI (s_ar σ2 j)))), (a 4, .inl (cI, 200, .inl (fun j => nI (s_vl σ2 j)))), (a 5, .inl (cI, 60, .inl (fun j => nI (s_cp σ2 j)))), (a 6, .inl (cI, 200, .inl (fun j => nI (s_sp σ2 j)))), (a 7, .inl (cI, 200, .inl (fun j => nI (s_sa σ2 j)))), (a 8, .inl (cI, 200, .inl (fun j => eN (s_sv σ2 j))))] := hD
                refine lv_iinc (v := nI (c_ + 1)) (lv' := [(2, .int (nI (c_ + 1))), (3, .int (nI (s_cp σ2 (s_pr σ2 (s_tk σ2)) - 1))), (0, .ref m0), (1, .int (nI cn))]) hx hb dX3_take_115 hl (k := 3) rfl (nv_inc _ 1) (by decide) rfl (fun ls hl => ?_)
                refine lv_goto (tgt := 22) hx hb dX3_take_118 (by decide) ?_
                have e1 : q_take1 σ2 = setS σ2 2 (fun _ => s_tk σ2 + 1) := by unfold q_take1; rw [if_neg (by omega)]
                exact ih (c_ + 1) (q_take1 σ2) (congrArg q_take1 hq_) (sI_take1 hI2 hz_t) (by rw [tk1_2]; omega) (by rw [tk1_1]; omega) (by omega) (by omega) H locs (by rw [e1]; exact hP) (va_D_fst hD rfl) hS ls (lv_sub hl [2, 3, 0] rfl)
              · refine lv_aload_n hx hb dX3_take_85 rfl (lv_at hl 1 rfl) ?_
                refine va_get (D := dD) (ci := 3) (v := .ref (a 5)) (C := RX3) (T := TX3) (N := 14) hx hb hts hinX3 hown hK hP 0 rfl rfl 9 (by decide) (hts (.fieldLink RX3 25 "FeatureStoreModel" "copy" "[I") (by decide +kernel)) (fun _ h9 => h9) rfl dX3_take_86 ?_
                refine lv_aload_n hx hb dX3_take_89 rfl (lv_at hl 1 rfl) ?_
                refine va_get (D := dD) (ci := 3) (v := .ref (a 1)) (C := RX3) (T := TX3) (N := 14) hx hb hts hinX3 hown hK hP 0 rfl rfl 4 (by decide) (hts (.fieldLink RX3 13 "FeatureStoreModel" "pair" "[I") (by decide +kernel)) (fun _ h9 => h9) rfl dX3_take_90 ?_
                refine lv_aload_n hx hb dX3_take_93 rfl (lv_at hl 1 rfl) ?_
                refine va_get (D := dD) (ci := 3) (v := .int (nI (s_tk σ2))) (C := RX3) (T := TX3) (N := 14) hx hb hts hinX3 hown hK hP 0 rfl rfl 8 (by decide) (hts (.fieldLink RX3 80 "FeatureStoreModel" "taken" "I") (by decide +kernel)) (fun _ h9 => h9) rfl dX3_take_94 ?_
                refine nv_iald (q0 := 2) (t0 := 0) (s_pr σ2) hx hb hK hP rfl rfl (by omega) (by decide) dX3_take_97 ?_
                refine lv_aload_n hx hb dX3_take_98 rfl (lv_at hl 1 rfl) ?_
                refine va_get (D := dD) (ci := 3) (v := .int (nI (s_tk σ2))) (C := RX3) (T := TX3) (N := 14) hx hb hts hinX3 hown hK hP 0 rfl rfl 8 (by decide) (hts (.fieldLink RX3 80 "FeatureStoreModel" "taken" "I") (by decide +kernel)) (fun _ h9 => h9) rfl dX3_take_99 ?_
                refine lv_iconst (v := nI 1) hx hb dX3_take_102 (by decide +kernel) ?_
                refine nv_iadd hx hb dX3_take_103 ?_
                refine nv_iast (q0 := 6) (t0 := 0) (s_cp σ2) hx hb hK hP hD hS rfl rfl (by omega) (by decide) dX3_take_104 (fun H locs hP hD hS => ?_)
                have hP : va_P dD vwCl [(m0, .inr (3, [.int (nI 0), .int (nI (s_now σ2)), .ref (a 0), .int (nI (s_n σ2)), .ref (a 1), .ref (a 2), .ref (a 3), .ref (a 4), .int (nI (s_tk σ2)), .ref (a 5), .int (nI (s_k σ2)), .ref (a 6), .ref (a 7), .ref (a 8)])), (a 0, .inl (cI, 6, .inl (fun j => nI (s_lt σ2 j)))), (a 1, .inl (cI, 200, .inl (fun j => nI (s_pr σ2 j)))), (a 2, .inl (cI, 200, .inl (fun j => nI (s_ev σ2 j)))), (a 3, .inl (cI, 200, .inl (fun j => nI (s_ar σ2 j)))), (a 4, .inl (cI, 200, .inl (fun j => nI (s_vl σ2 j)))), (a 5, .inl (cI, 60, .inl (fun j => nI ((uN (s_cp σ2) (s_pr σ2 (s_tk σ2)) ((s_tk σ2) + 1)) j)))), (a 6, .inl (cI, 200, .inl (fun j => nI (s_sp σ2 j)))), (a 7, .inl (cI, 200, .inl (fun j => nI (s_sa σ2 j)))), (a 8, .inl (cI, 200, .inl (fun j => eN (s_sv σ2 j))))] H := hP
                have hD : va_D A [(m0, .inr (3, [.int (nI 0), .int (nI (s_now σ2)), .ref (a 0), .int (nI (s_n σ2)), .ref (a 1), .ref (a 2), .ref (a 3), .ref (a 4), .int (nI (s_tk σ2)), .ref (a 5), .int (nI (s_k σ2)), .ref (a 6), .ref (a 7), .ref (a 8)])), (a 0, .inl (cI, 6, .inl (fun j => nI (s_lt σ2 j)))), (a 1, .inl (cI, 200, .inl (fun j => nI (s_pr σ2 j)))), (a 2, .inl (cI, 200, .inl (fun j => nI (s_ev σ2 j)))), (a 3, .inl (cI, 200, .inl (fun j => nI (s_ar σ2 j)))), (a 4, .inl (cI, 200, .inl (fun j => nI (s_vl σ2 j)))), (a 5, .inl (cI, 60, .inl (fun j => nI ((uN (s_cp σ2) (s_pr σ2 (s_tk σ2)) ((s_tk σ2) + 1)) j)))), (a 6, .inl (cI, 200, .inl (fun j => nI (s_sp σ2 j)))), (a 7, .inl (cI, 200, .inl (fun j => nI (s_sa σ2 j)))), (a 8, .inl (cI, 200, .inl (fun j => eN (s_sv σ2 j))))] := hD
                refine lv_aload_n hx hb dX3_take_105 rfl (lv_at hl 1 rfl) ?_
                refine lv_dup hx hb dX3_take_106 rfl ?_
                refine va_get (D := dD) (ci := 3) (v := .int (nI (s_tk σ2))) (C := RX3) (T := TX3) (N := 14) hx hb hts hinX3 hown hK hP 0 rfl rfl 8 (by decide) (hts (.fieldLink RX3 80 "FeatureStoreModel" "taken" "I") (by decide +kernel)) (fun _ h9 => h9) rfl dX3_take_107 ?_
                refine lv_iconst (v := nI 1) hx hb dX3_take_110 (by decide +kernel) ?_
                refine nv_iadd hx hb dX3_take_111 ?_
                refine va_put (D := dD) (ci := 3) (v := .int (nI ((s_tk σ2) + 1))) (ty := .int) (C := RX3) (T := TX3) (N := 14) hx hb hts hinX3 tyX3 tyX3_ok nmX3 hown hK hP hD hS 0 rfl rfl 8 (by decide) (hts (.fieldLink RX3 80 "FeatureStoreModel" "taken" "I") (by decide +kernel)) (fun _ h9 => h9) rfl (by decide +kernel) rfl rfl (Nat.le_of_ble_eq_true rfl) dX3_take_112 (fun H locs hP hD hS => ?_)
                have hP : va_P dD vwCl [(m0, .inr (3, [.int (nI 0), .int (nI (s_now σ2)), .ref (a 0), .int (nI (s_n σ2)), .ref (a 1), .ref (a 2), .ref (a 3), .ref (a 4), .int (nI ((s_tk σ2) + 1)), .ref (a 5), .int (nI (s_k σ2)), .ref (a 6), .ref (a 7), .ref (a 8)])), (a 0, .inl (cI, 6, .inl (fun j => nI (s_lt σ2 j)))), (a 1, .inl (cI, 200, .inl (fun j => nI (s_pr σ2 j)))), (a 2, .inl (cI, 200, .inl (fun j => nI (s_ev σ2 j)))), (a 3, .inl (cI, 200, .inl (fun j => nI (s_ar σ2 j)))), (a 4, .inl (cI, 200, .inl (fun j => nI (s_vl σ2 j)))), (a 5, .inl (cI, 60, .inl (fun j => nI ((uN (s_cp σ2) (s_pr σ2 (s_tk σ2)) ((s_tk σ2) + 1)) j)))), (a 6, .inl (cI, 200, .inl (fun j => nI (s_sp σ2 j)))), (a 7, .inl (cI, 200, .inl (fun j => nI (s_sa σ2 j)))), (a 8, .inl (cI, 200, .inl (fun j => eN (s_sv σ2 j))))] H := hP
                have hD : va_D A [(m0, .inr (3, [.int (nI 0), .int (nI (s_now σ2)), .ref (a 0), .int (nI (s_n σ2)), .ref (a 1), .ref (a 2), .ref (a 3), .ref (a 4), .int (nI ((s_tk σ2) + 1)), .ref (a 5), .int (nI (s_k σ2)), .ref (a 6), .ref (a 7), .ref (a 8)])), (a 0, .inl (cI, 6, .inl (fun j => nI (s_lt σ2 j)))), (a 1, .inl (cI, 200, .inl (fun j => nI (s_pr σ2 j)))), (a 2, .inl (cI, 200, .inl (fun j => nI (s_ev σ2 j)))), (a 3, .inl (cI, 200, .inl (fun j => nI (s_ar σ2 j)))), (a 4, .inl (cI, 200, .inl (fun j => nI (s_vl σ2 j)))), (a 5, .inl (cI, 60, .inl (fun j => nI ((uN (s_cp σ2) (s_pr σ2 (s_tk σ2)) ((s_tk σ2) + 1)) j)))), (a 6, .inl (cI, 200, .inl (fun j => nI (s_sp σ2 j)))), (a 7, .inl (cI, 200, .inl (fun j => nI (s_sa σ2 j)))), (a 8, .inl (cI, 200, .inl (fun j => eN (s_sv σ2 j))))] := hD
                refine lv_iinc (v := nI (c_ + 1)) (lv' := [(2, .int (nI (c_ + 1))), (3, .int (nI (s_cp σ2 (s_pr σ2 (s_tk σ2)) - 1))), (0, .ref m0), (1, .int (nI cn))]) hx hb dX3_take_115 hl (k := 3) rfl (nv_inc _ 1) (by decide) rfl (fun ls hl => ?_)
                refine lv_goto (tgt := 22) hx hb dX3_take_118 (by decide) ?_
                have e1 : q_take1 σ2 = setS (setS σ2 9 (uN (s_cp σ2) (s_pr σ2 (s_tk σ2)) (s_tk σ2 + 1))) 2 (fun _ => s_tk σ2 + 1) := by unfold q_take1; rw [if_pos (Or.inr (by omega))]
                exact ih (c_ + 1) (q_take1 σ2) (congrArg q_take1 hq_) (sI_take1 hI2 hz_t) (by rw [tk1_2]; omega) (by rw [tk1_1]; omega) (by omega) (by omega) H locs (by rw [e1]; exact hP) (va_D_fst hD rfl) hS ls (lv_sub hl [2, 3, 0] rfl)
    exact hlp (s_n σ + 1) 0 σ rfl hI rfl rfl (Nat.zero_le _) (by omega) H locs hP (va_D_fst hD rfl) hS ls (lv_sub hl [1, 2, 0] rfl)
  · refine nv_if_eq (tgt := 16) hx hb dX3_take_9 (by decide) (by decide) (fun c_9 => ?_) (fun c_9 => absurd c_9 (by decide))
    refine lv_iconst (v := nI 1) hx hb dX3_take_16 (by decide +kernel) ?_
    refine va_put (D := dD) (ci := 3) (v := .int (nI 1)) (ty := .int) (C := RX3) (T := TX3) (N := 14) hx hb hts hinX3 tyX3 tyX3_ok nmX3 hown hK hP hD hS 0 rfl rfl 0 (by decide) (hts (.fieldLink RX3 37 "FeatureStoreModel" "thrown" "I") (by decide +kernel)) (fun _ h9 => h9) rfl (by decide +kernel) rfl rfl (Nat.le_of_ble_eq_true rfl) dX3_take_17 (fun H locs hP hD hS => ?_)
    have hP : va_P dD vwCl [(m0, .inr (3, [.int (nI 1), .int (nI (s_now σ)), .ref (a 0), .int (nI (s_n σ)), .ref (a 1), .ref (a 2), .ref (a 3), .ref (a 4), .int (nI (s_tk σ)), .ref (a 5), .int (nI (s_k σ)), .ref (a 6), .ref (a 7), .ref (a 8)])), (a 0, .inl (cI, 6, .inl (fun j => nI (s_lt σ j)))), (a 1, .inl (cI, 200, .inl (fun j => nI (s_pr σ j)))), (a 2, .inl (cI, 200, .inl (fun j => nI (s_ev σ j)))), (a 3, .inl (cI, 200, .inl (fun j => nI (s_ar σ j)))), (a 4, .inl (cI, 200, .inl (fun j => nI (s_vl σ j)))), (a 5, .inl (cI, 60, .inl (fun j => nI (s_cp σ j)))), (a 6, .inl (cI, 200, .inl (fun j => nI (s_sp σ j)))), (a 7, .inl (cI, 200, .inl (fun j => nI (s_sa σ j)))), (a 8, .inl (cI, 200, .inl (fun j => eN (s_sv σ j))))] H := hP
    have hD : va_D A [(m0, .inr (3, [.int (nI 1), .int (nI (s_now σ)), .ref (a 0), .int (nI (s_n σ)), .ref (a 1), .ref (a 2), .ref (a 3), .ref (a 4), .int (nI (s_tk σ)), .ref (a 5), .int (nI (s_k σ)), .ref (a 6), .ref (a 7), .ref (a 8)])), (a 0, .inl (cI, 6, .inl (fun j => nI (s_lt σ j)))), (a 1, .inl (cI, 200, .inl (fun j => nI (s_pr σ j)))), (a 2, .inl (cI, 200, .inl (fun j => nI (s_ev σ j)))), (a 3, .inl (cI, 200, .inl (fun j => nI (s_ar σ j)))), (a 4, .inl (cI, 200, .inl (fun j => nI (s_vl σ j)))), (a 5, .inl (cI, 60, .inl (fun j => nI (s_cp σ j)))), (a 6, .inl (cI, 200, .inl (fun j => nI (s_sp σ j)))), (a 7, .inl (cI, 200, .inl (fun j => nI (s_sa σ j)))), (a 8, .inl (cI, 200, .inl (fun j => eN (s_sv σ j))))] := hD
    refine lv_iconst (v := nI 0) hx hb dX3_take_20 (by decide +kernel) ?_
    refine lv_istore_n (lv' := [(2, .int (nI 0)), (0, .ref m0), (1, .int x)]) hx hb dX3_take_21 rfl hl (by decide) rfl (fun ls hl => ?_)
    refine lv_aload_n hx hb dX3_take_22 rfl (lv_at hl 1 rfl) ?_
    refine va_get (D := dD) (ci := 3) (v := .int (nI 1)) (C := RX3) (T := TX3) (N := 14) hx hb hts hinX3 hown hK hP 0 rfl rfl 0 (by decide) (hts (.fieldLink RX3 37 "FeatureStoreModel" "thrown" "I") (by decide +kernel)) (fun _ h9 => h9) rfl dX3_take_23 ?_
    refine nv_if_ne (tgt := 121) hx hb dX3_take_26 (by decide) (by decide) (fun c_26 => ?_) (fun c_26 => absurd c_26 (by decide))
    refine lv_iload_n hx hb dX3_take_121 rfl (lv_at hl 0 rfl) ?_
    exact W.iret (v := nI 0) hx hb hr (fun u9 hu9 hW => ⟨⟨nI 0, (1, σ), rfl, Or.inr (Or.inl ⟨hr_6, rfl⟩), by have h9 := hP; rw [← hu9] at h9; exact h9⟩, hS.F hu9⟩) hS.2.2 dX3_take_122
