/-! the law's areTiles (laid by wip/p24/gen/told24.py) -/
theorem hv_l {A X Y : Prop} (a : A) (h : (A ∧ X) ∨ (¬ A ∧ Y)) : X := (h.resolve_right (fun z => z.1 a)).2
theorem hv_r {A X Y : Prop} (a : ¬ A) (h : (A ∧ X) ∨ (¬ A ∧ Y)) : Y := (h.resolve_left (fun z => a z.1)).2

set_option maxHeartbeats 4000000 in
set_option maxRecDepth 100000 in
theorem c_L_areTiles (l : Launch) (dD : va_G) (cI cR cS : ClassId) (lo : Nat) (hfl : l.stackTraces = false) (la : Nat → Nat) (x0 : Nat) (b ra sb hd ol : Nat → Nat) (σ : St) (hI : sI σ) (hX : xI σ hd ol) (hL : lI σ) (f e len wa wb : Nat) (hf : f < 6) (he : e < 10) (hl1 : 1 ≤ len) (hl2 : len ≤ 10000) (hw1 : wa ≤ wb) (hw2 : wb ≤ 10000) : Met l yL_areTiles wsL_areTiles ({ frames := 10, cells := 10, slots := 60, locals := 178 }) (ePc dD cI cR cS lo [.ref x0, .int (nI f), .int (nI e), .int (nI len), .int (nI wa), .int (nI wb), .ref (la 0), .ref (la 1), .ref (la 3), .ref (la 7)] (fun H => va_P dD vwCl (lW cI la σ ++ xW cI cR cS x0 b ra sb hd ol σ) H)) (lK (fun r => r = nI 1)) 10 60 (fun _ => False) := by
  refine Met.ofW (cc := cL_areTiles) (maxL := 17) (ret := (some .boolean)) (by decide) rfl ?_
  intro p e_ s m args below meth c s₁ B hml hv
  obtain ⟨rfl, hE, hP⟩ := hv
  have hx := B.exec
  have hb := B.bytes
  have hr := B.returns
  have hts := atoms_spec (ws := wsL_areTiles) B.pre
  have hown : s.vm.findClass RL = some m.cls := findClass_of_methodNamed B.named
  have hlocks := B.notSynchronized
  have hK := hE.1.1
  obtain ⟨i_now, i_n, i_tk, i_k, i_lt, i_row, i_cp, i_srv⟩ := id hI
  have hz_e := hL.1
  have hl := lv_entry ([.ref x0, .int (nI f), .int (nI e), .int (nI len), .int (nI wa), .int (nI wb), .ref (la 0), .ref (la 1), .ref (la 3), .ref (la 7)]) (n := 17) (Nat.le_of_ble_eq_true rfl)
  rw [lg_entry_eq]
  generalize (lg_sl ([.ref x0, .int (nI f), .int (nI e), .int (nI len), .int (nI wa), .int (nI wb), .ref (la 0), .ref (la 1), .ref (la 3), .ref (la 7)]) ++ List.replicate (17 - (lg_sl ([.ref x0, .int (nI f), .int (nI e), .int (nI len), .int (nI wa), .int (nI wb), .ref (la 0), .ref (la 1), .ref (la 3), .ref (la 7)])).length) Slot.unset).toArray = ls at hl ⊢
  have hl : lv_has ls 17 [(0, .ref x0), (1, .int (nI f)), (2, .int (nI e)), (3, .int (nI len)), (4, .int (nI wa)), (5, .int (nI wb)), (6, .ref (la 0)), (7, .ref (la 1)), (8, .ref (la 3)), (9, .ref (la 7))] := hl
  have hk : kH s.heap s.heap := kH.rf
  refine lv_iconst (v := nI 0) hx hb dL_areTiles_0 (by decide +kernel) ?_
  refine lv_istore (lv' := [(10, .int (nI 0)), (0, .ref x0), (1, .int (nI f)), (2, .int (nI e)), (3, .int (nI len)), (4, .int (nI wa)), (5, .int (nI wb)), (6, .ref (la 0)), (7, .ref (la 1)), (8, .ref (la 3)), (9, .ref (la 7))]) hx hb dL_areTiles_1 hl (by decide) rfl (fun ls hl => ?_)
  refine lv_iconst (v := nI 0) hx hb dL_areTiles_3 (by decide +kernel) ?_
  refine lv_istore (lv' := [(11, .int (nI 0)), (10, .int (nI 0)), (0, .ref x0), (1, .int (nI f)), (2, .int (nI e)), (3, .int (nI len)), (4, .int (nI wa)), (5, .int (nI wb)), (6, .ref (la 0)), (7, .ref (la 1)), (8, .ref (la 3)), (9, .ref (la 7))]) hx hb dL_areTiles_4 hl (by decide) rfl (fun ls hl => ?_)
  refine lv_iconst (v := nI 0) hx hb dL_areTiles_6 (by decide +kernel) ?_
  refine lv_istore (lv' := [(12, .int (nI 0)), (11, .int (nI 0)), (10, .int (nI 0)), (0, .ref x0), (1, .int (nI f)), (2, .int (nI e)), (3, .int (nI len)), (4, .int (nI wa)), (5, .int (nI wb)), (6, .ref (la 0)), (7, .ref (la 1)), (8, .ref (la 3)), (9, .ref (la 7))]) hx hb dL_areTiles_7 hl (by decide) rfl (fun ls hl => ?_)
  refine lv_iconst (v := nI 0) hx hb dL_areTiles_9 (by decide +kernel) ?_
  refine lv_istore (lv' := [(13, .int (nI 0)), (12, .int (nI 0)), (11, .int (nI 0)), (10, .int (nI 0)), (0, .ref x0), (1, .int (nI f)), (2, .int (nI e)), (3, .int (nI len)), (4, .int (nI wa)), (5, .int (nI wb)), (6, .ref (la 0)), (7, .ref (la 1)), (8, .ref (la 3)), (9, .ref (la 7))]) hx hb dL_areTiles_10 hl (by decide) rfl (fun ls hl => ?_)
  have lp_12 : ∀ (d : Nat) (k : Nat), k ≤ s_n σ → s_n σ < k + d → ∀ (ls : Array Slot), lv_has ls 17 [(0, .ref x0), (1, .int (nI f)), (2, .int (nI e)), (3, .int (nI len)), (4, .int (nI wa)), (5, .int (nI wb)), (6, .ref (la 0)), (7, .ref (la 1)), (8, .ref (la 3)), (9, .ref (la 7)), (10, .int (nI (q_sum σ (10 * f + e) wa wb k))), (11, .int (nI (t_mx σ (10 * f + e) len (s_n σ) k))), (12, .int (nI (t_ct σ (10 * f + e) len (s_n σ) k))), (13, .int (nI k))] → W p l e_ (headSpec wsL_areTiles ({ frames := 10, cells := 10, slots := 60, locals := 178 })).room s m (([.ref x0, .int (nI f), .int (nI e), .int (nI len), .int (nI wa), .int (nI wb), .ref (la 0), .ref (la 1), .ref (la 3), .ref (la 7)] : List Value).toArray) below meth c s.heap [] (0) (0) (MQ below (lK (fun r => r = nI 1)) (([.ref x0, .int (nI f), .int (nI e), .int (nI len), .int (nI wa), .int (nI wb), .ref (la 0), .ref (la 1), .ref (la 3), .ref (la 7)] : List Value).toArray) s 10 60 (fun _ => False)) (F0 m 12 ls []) := by
    intro d
    induction d with
    | zero =>
      intro k hr1 hr2 ls hl
      exact absurd hr2 (by omega)
    | succ d ih =>
      intro k hr1 hr2 ls hl
      refine lv_iload hx hb dL_areTiles_12 (lv_at hl 13 rfl) ?_
      refine lv_aload hx hb dL_areTiles_14 (lv_at hl 9 rfl) ?_
      refine lv_iconst (v := nI 1) hx hb dL_areTiles_16 (by decide +kernel) ?_
      refine nv_ialdE (q0 := 7) (t0 := 0) (v := s_n σ) (l_g σ) (rfl) hx hb hK hP rfl rfl (by decide) (by decide) dL_areTiles_17 ?_
      refine nv_ge (tgt := 193) hx hb dL_areTiles_18 (by decide) (by omega) (by omega) (fun c_18 => ?_) (fun c_18 => ?_)
      · have e_k : k = s_n σ := by omega
        rw [e_k, (t_mx_gt (q := 10 * f + e) hl1 (s_n σ)).1, t_ct_tl (q := 10 * f + e) (len := len) (s_n σ)] at hl
        refine lv_aload_n hx hb dL_areTiles_193 rfl (lv_at hl 0 rfl) ?_
        refine lv_iload_n hx hb dL_areTiles_194 rfl (lv_at hl 1 rfl) ?_
        refine lv_iload_n hx hb dL_areTiles_195 rfl (lv_at hl 2 rfl) ?_
        refine lv_iload hx hb dL_areTiles_196 (lv_at hl 4 rfl) ?_
        refine lv_iload hx hb dL_areTiles_198 (lv_at hl 5 rfl) ?_
        refine nx_callKv (v := nI (q_sum σ (10 * f + e) wa wb (s_n σ))) (vx_runSW (As := [.ref x0, .int (nI f), .int (nI e), .int (nI wa), .int (nI wb)]) (rest := []) ⟨hx, hb, hml, hown, hts⟩ (c_L_window l dD cI cR cS lo hfl x0 b ra sb hd ol σ hI hX (nI f) (nI e) (nI wa) (nI wb)) (vx_cwSW 5 hts gL_areTiles_L_window rfl rfl rfl (by decide +kernel) ⟨Nat.le_of_ble_eq_true rfl, Nat.le_of_ble_eq_true rfl⟩) (ePreS hE (kH.S hk) (vP_app2 hP)) rfl rfl hl.1 rfl (lv_room (Nat.le_of_ble_eq_true rfl)) dL_areTiles_200 ⟨(by omega : 0 + 4 ≤ 10), (by omega : 0 + 24 ≤ 60)⟩) (fun r h => (hv_l ⟨okP_n hf he, rg_n (Nat.zero_le _) (by omega) (by decide), by rw [cl_nI (by omega)]; exact rg_n hw1 hw2 (by decide)⟩ h).trans (by rw [plN_n hf he, cl_nI (show wa < 2 ^ 31 by omega), cl_nI (show wb < 2 ^ 31 by omega)])) (fun H1 hk_200 => ?_)
        have hP := hk_200.P hP
        have hk := hk.tr hk_200
        refine lv_iload hx hb dL_areTiles_203 (lv_at hl 10 rfl) ?_
        refine lv_icmp_ne (tgt := 236) hx hb dL_areTiles_205 (by decide) (fun c_205 => absurd rfl c_205) (fun c_205 => ?_)
        refine lv_aload_n hx hb dL_areTiles_208 rfl (lv_at hl 0 rfl) ?_
        refine lv_iload_n hx hb dL_areTiles_209 rfl (lv_at hl 1 rfl) ?_
        refine lv_iload_n hx hb dL_areTiles_210 rfl (lv_at hl 2 rfl) ?_
        refine lv_iload_n hx hb dL_areTiles_211 rfl (lv_at hl 3 rfl) ?_
        refine nx_callKv (v := nI (q_gt σ (10 * f + e) len (s_n σ))) (vx_runSW (As := [.ref x0, .int (nI f), .int (nI e), .int (nI len)]) (rest := []) ⟨hx, hb, hml, hown, hts⟩ (c_L_greatestTile l dD cI cR cS lo hfl x0 b ra sb hd ol σ hI hX (nI f) (nI e) (nI len)) (vx_cwSW 4 hts gL_areTiles_L_greatestTile rfl rfl rfl (by decide +kernel) ⟨Nat.le_of_ble_eq_true rfl, Nat.le_of_ble_eq_true rfl⟩) (ePreS hE (kH.S hk) (vP_app2 hP)) rfl rfl hl.1 rfl (lv_room (Nat.le_of_ble_eq_true rfl)) dL_areTiles_212 ⟨(by omega : 0 + 4 + 3 ≤ 10), (by omega : 0 + 24 + 18 ≤ 60)⟩) (fun r h => (hv_l ⟨okP_n hf he, rg_n hl1 hl2 (by decide)⟩ h).trans (by rw [plN_n hf he, cl_nI (show len < 2 ^ 31 by omega)])) (fun H1 hk_212 => ?_)
        have hP := hk_212.P hP
        have hk := hk.tr hk_212
        refine lv_iload hx hb dL_areTiles_215 (lv_at hl 11 rfl) ?_
        refine lv_icmp_ne (tgt := 236) hx hb dL_areTiles_217 (by decide) (fun c_217 => absurd rfl c_217) (fun c_217 => ?_)
        refine lv_aload_n hx hb dL_areTiles_220 rfl (lv_at hl 0 rfl) ?_
        refine lv_iload_n hx hb dL_areTiles_221 rfl (lv_at hl 1 rfl) ?_
        refine lv_iload_n hx hb dL_areTiles_222 rfl (lv_at hl 2 rfl) ?_
        refine lv_iload_n hx hb dL_areTiles_223 rfl (lv_at hl 3 rfl) ?_
        refine nx_callKv (v := nI (q_tl σ (10 * f + e) len (s_n σ))) (vx_runSW (As := [.ref x0, .int (nI f), .int (nI e), .int (nI len)]) (rest := []) ⟨hx, hb, hml, hown, hts⟩ (c_L_tiles l dD cI cR cS lo hfl x0 b ra sb hd ol σ hI hX (nI f) (nI e) (nI len)) (vx_cwSW 4 hts gL_areTiles_L_tiles rfl rfl rfl (by decide +kernel) ⟨Nat.le_of_ble_eq_true rfl, Nat.le_of_ble_eq_true rfl⟩) (ePreS hE (kH.S hk) (vP_app2 hP)) rfl rfl hl.1 rfl (lv_room (Nat.le_of_ble_eq_true rfl)) dL_areTiles_224 ⟨(by omega : 0 + 4 + 3 + 3 ≤ 10), (by omega : 0 + 24 + 18 + 18 ≤ 60)⟩) (fun r h => (hv_l ⟨okP_n hf he, rg_n hl1 hl2 (by decide)⟩ h).trans (by rw [plN_n hf he, cl_nI (show len < 2 ^ 31 by omega)])) (fun H1 hk_224 => ?_)
        have hP := hk_224.P hP
        have hk := hk.tr hk_224
        refine lv_iload hx hb dL_areTiles_227 (lv_at hl 12 rfl) ?_
        refine lv_icmp_ne (tgt := 236) hx hb dL_areTiles_229 (by decide) (fun c_229 => absurd rfl c_229) (fun c_229 => ?_)
        refine lv_iconst (v := nI 1) hx hb dL_areTiles_232 (by decide +kernel) ?_
        refine lv_goto (tgt := 237) hx hb dL_areTiles_233 (by decide) ?_
        refine W.widen (k := 10) (n := 60) (by omega) (by omega) ?_
        exact W.zret (v := nI 1) hx hb hr rfl (fun u9 hu9 hW => ⟨nI 1, rfl, rfl, hk.F hu9⟩) (fun z hz => absurd hz List.not_mem_nil) dL_areTiles_237
      · have hz_k := i_row k (by omega)
        have hz_p : l_p σ k < 78 := pN_lt hz_k.1
        have hz_s := q_sum_le hI (10 * f + e) wa wb k (by omega)
        have hz_m := t_mx_le hI hL.1 (10 * f + e) len k
        have hz_c := t_ct_le σ (10 * f + e) len (s_n σ) k
        have hz_n := hL.1
        refine lv_aload hx hb dL_areTiles_21 (lv_at hl 6 rfl) ?_
        refine lv_iload hx hb dL_areTiles_23 (lv_at hl 13 rfl) ?_
        refine nv_iald (q0 := 0) (t0 := 0) (l_p σ) hx hb hK hP rfl rfl (by omega) (by decide) dL_areTiles_25 ?_
        refine lv_iload_n hx hb dL_areTiles_26 rfl (lv_at hl 1 rfl) ?_
        refine lv_bipush (v := nI 8) hx hb dL_areTiles_27 (by decide +kernel) ?_
        refine lv_iload_n hx hb dL_areTiles_29 rfl (lv_at hl 2 rfl) ?_
        refine nv_imul hx hb dL_areTiles_30 ?_
        refine nv_iadd hx hb dL_areTiles_31 ?_
        refine nv_eq (tgt := 38) hx hb dL_areTiles_32 (by decide) (by omega) (by omega) (fun c_32 => ?_) (fun c_32 => ?_)
        · have hpr : s_pr σ k = 10 * f + e := (pN_eq hz_k.1 (by omega)).mp (Eq.trans c_32 (pN_of hf he).symm)
          have hj_72 : ∀ (ls : Array Slot), lv_has ls 17 [(0, .ref x0), (1, .int (nI f)), (2, .int (nI e)), (3, .int (nI len)), (4, .int (nI wa)), (5, .int (nI wb)), (6, .ref (la 0)), (7, .ref (la 1)), (8, .ref (la 3)), (9, .ref (la 7)), (10, .int (nI (q_sum σ (10 * f + e) wa wb (k + 1)))), (11, .int (nI (t_mx σ (10 * f + e) len (s_n σ) k))), (12, .int (nI (t_ct σ (10 * f + e) len (s_n σ) k))), (13, .int (nI k))] → W p l e_ (headSpec wsL_areTiles ({ frames := 10, cells := 10, slots := 60, locals := 178 })).room s m (([.ref x0, .int (nI f), .int (nI e), .int (nI len), .int (nI wa), .int (nI wb), .ref (la 0), .ref (la 1), .ref (la 3), .ref (la 7)] : List Value).toArray) below meth c s.heap [] (0) (0) (MQ below (lK (fun r => r = nI 1)) (([.ref x0, .int (nI f), .int (nI e), .int (nI len), .int (nI wa), .int (nI wb), .ref (la 0), .ref (la 1), .ref (la 3), .ref (la 7)] : List Value).toArray) s 10 60 (fun _ => False)) (F0 m 72 ls []) := by
            intro ls hl
            refine lv_iconst (v := nI 0) hx hb dL_areTiles_72 (by decide +kernel) ?_
            refine lv_istore (lv' := [(14, .int (nI 0)), (0, .ref x0), (1, .int (nI f)), (2, .int (nI e)), (3, .int (nI len)), (4, .int (nI wa)), (5, .int (nI wb)), (6, .ref (la 0)), (7, .ref (la 1)), (8, .ref (la 3)), (9, .ref (la 7)), (10, .int (nI (q_sum σ (10 * f + e) wa wb (k + 1)))), (11, .int (nI (t_mx σ (10 * f + e) len (s_n σ) k))), (12, .int (nI (t_ct σ (10 * f + e) len (s_n σ) k))), (13, .int (nI k))]) hx hb dL_areTiles_73 hl (by decide) rfl (fun ls hl => ?_)
            refine lv_iconst (v := nI 1) hx hb dL_areTiles_75 (by decide +kernel) ?_
            refine lv_istore (lv' := [(15, .int (nI 1)), (14, .int (nI 0)), (0, .ref x0), (1, .int (nI f)), (2, .int (nI e)), (3, .int (nI len)), (4, .int (nI wa)), (5, .int (nI wb)), (6, .ref (la 0)), (7, .ref (la 1)), (8, .ref (la 3)), (9, .ref (la 7)), (10, .int (nI (q_sum σ (10 * f + e) wa wb (k + 1)))), (11, .int (nI (t_mx σ (10 * f + e) len (s_n σ) k))), (12, .int (nI (t_ct σ (10 * f + e) len (s_n σ) k))), (13, .int (nI k))]) hx hb dL_areTiles_76 hl (by decide) rfl (fun ls hl => ?_)
            refine lv_iconst (v := nI 0) hx hb dL_areTiles_78 (by decide +kernel) ?_
            refine lv_istore (lv' := [(16, .int (nI 0)), (15, .int (nI 1)), (14, .int (nI 0)), (0, .ref x0), (1, .int (nI f)), (2, .int (nI e)), (3, .int (nI len)), (4, .int (nI wa)), (5, .int (nI wb)), (6, .ref (la 0)), (7, .ref (la 1)), (8, .ref (la 3)), (9, .ref (la 7)), (10, .int (nI (q_sum σ (10 * f + e) wa wb (k + 1)))), (11, .int (nI (t_mx σ (10 * f + e) len (s_n σ) k))), (12, .int (nI (t_ct σ (10 * f + e) len (s_n σ) k))), (13, .int (nI k))]) hx hb dL_areTiles_79 hl (by decide) rfl (fun ls hl => ?_)
            have lp_81 : ∀ (d2 : Nat) (i : Nat), i ≤ s_n σ → s_n σ < i + d2 → ∀ (ls : Array Slot), lv_has ls 17 [(0, .ref x0), (1, .int (nI f)), (2, .int (nI e)), (3, .int (nI len)), (4, .int (nI wa)), (5, .int (nI wb)), (6, .ref (la 0)), (7, .ref (la 1)), (8, .ref (la 3)), (9, .ref (la 7)), (10, .int (nI (q_sum σ (10 * f + e) wa wb (k + 1)))), (11, .int (nI (t_mx σ (10 * f + e) len (s_n σ) k))), (12, .int (nI (t_ct σ (10 * f + e) len (s_n σ) k))), (13, .int (nI k)), (14, .int (nI (t_sum σ len k i))), (15, .int (nI (t_lst σ len k i))), (16, .int (nI i))] → W p l e_ (headSpec wsL_areTiles ({ frames := 10, cells := 10, slots := 60, locals := 178 })).room s m (([.ref x0, .int (nI f), .int (nI e), .int (nI len), .int (nI wa), .int (nI wb), .ref (la 0), .ref (la 1), .ref (la 3), .ref (la 7)] : List Value).toArray) below meth c s.heap [] (0) (0) (MQ below (lK (fun r => r = nI 1)) (([.ref x0, .int (nI f), .int (nI e), .int (nI len), .int (nI wa), .int (nI wb), .ref (la 0), .ref (la 1), .ref (la 3), .ref (la 7)] : List Value).toArray) s 10 60 (fun _ => False)) (F0 m 81 ls []) := by
              intro d2
              induction d2 with
              | zero =>
                intro i hi1 hi2 ls hl
                exact absurd hi2 (by omega)
              | succ d2 ih2 =>
                intro i hi1 hi2 ls hl
                refine lv_iload hx hb dL_areTiles_81 (lv_at hl 16 rfl) ?_
                refine lv_aload hx hb dL_areTiles_83 (lv_at hl 9 rfl) ?_
                refine lv_iconst (v := nI 1) hx hb dL_areTiles_85 (by decide +kernel) ?_
                refine nv_ialdE (q0 := 7) (t0 := 0) (v := s_n σ) (l_g σ) (rfl) hx hb hK hP rfl rfl (by decide) (by decide) dL_areTiles_86 ?_
                refine nv_ge (tgt := 156) hx hb dL_areTiles_87 (by decide) (by omega) (by omega) (fun c_87 => ?_) (fun c_87 => ?_)
                · have e_i : i = s_n σ := by omega
                  rw [e_i] at hl
                  have hz_t := t_sum_le hI len k (s_n σ) (Nat.le_refl _)
                  have hz_l := t_lst_01 σ len k (s_n σ)
                  refine lv_iload hx hb dL_areTiles_156 (lv_at hl 14 rfl) ?_
                  refine lv_iload hx hb dL_areTiles_158 (lv_at hl 11 rfl) ?_
                  refine nv_le (tgt := 168) hx hb dL_areTiles_160 (by decide) (by omega) (by omega) (fun c_160 => ?_) (fun c_160 => ?_)
                  · refine lv_iload hx hb dL_areTiles_168 (lv_at hl 11 rfl) ?_
                    refine lv_istore (lv' := [(11, .int (nI (t_mx σ (10 * f + e) len (s_n σ) k))), (0, .ref x0), (1, .int (nI f)), (2, .int (nI e)), (3, .int (nI len)), (4, .int (nI wa)), (5, .int (nI wb)), (6, .ref (la 0)), (7, .ref (la 1)), (8, .ref (la 3)), (9, .ref (la 7)), (10, .int (nI (q_sum σ (10 * f + e) wa wb (k + 1)))), (12, .int (nI (t_ct σ (10 * f + e) len (s_n σ) k))), (13, .int (nI k)), (14, .int (nI (t_sum σ len k (s_n σ)))), (15, .int (nI (t_lst σ len k (s_n σ)))), (16, .int (nI (s_n σ)))]) hx hb dL_areTiles_170 hl (by decide) rfl (fun ls hl => ?_)
                    refine lv_iload hx hb dL_areTiles_172 (lv_at hl 12 rfl) ?_
                    refine lv_iload hx hb dL_areTiles_174 (lv_at hl 15 rfl) ?_
                    refine nv_if_eq (tgt := 183) hx hb dL_areTiles_176 (by decide) (by omega) (fun c_176 => ?_) (fun c_176 => ?_)
                    · refine lv_iconst (v := nI 0) hx hb dL_areTiles_183 (by decide +kernel) ?_
                      refine nv_iadd hx hb dL_areTiles_184 ?_
                      refine lv_istore (lv' := [(12, .int (nI ((t_ct σ (10 * f + e) len (s_n σ) k) + 0))), (11, .int (nI (t_mx σ (10 * f + e) len (s_n σ) k))), (0, .ref x0), (1, .int (nI f)), (2, .int (nI e)), (3, .int (nI len)), (4, .int (nI wa)), (5, .int (nI wb)), (6, .ref (la 0)), (7, .ref (la 1)), (8, .ref (la 3)), (9, .ref (la 7)), (10, .int (nI (q_sum σ (10 * f + e) wa wb (k + 1)))), (13, .int (nI k)), (14, .int (nI (t_sum σ len k (s_n σ)))), (15, .int (nI (t_lst σ len k (s_n σ)))), (16, .int (nI (s_n σ)))]) hx hb dL_areTiles_185 hl (by decide) rfl (fun ls hl => ?_)
                      refine lv_iinc (v := nI (k + 1)) (lv' := [(13, .int (nI (k + 1))), (12, .int (nI ((t_ct σ (10 * f + e) len (s_n σ) k) + 0))), (11, .int (nI (t_mx σ (10 * f + e) len (s_n σ) k))), (0, .ref x0), (1, .int (nI f)), (2, .int (nI e)), (3, .int (nI len)), (4, .int (nI wa)), (5, .int (nI wb)), (6, .ref (la 0)), (7, .ref (la 1)), (8, .ref (la 3)), (9, .ref (la 7)), (10, .int (nI (q_sum σ (10 * f + e) wa wb (k + 1)))), (14, .int (nI (t_sum σ len k (s_n σ)))), (15, .int (nI (t_lst σ len k (s_n σ)))), (16, .int (nI (s_n σ)))]) hx hb dL_areTiles_187 hl (k := 13) rfl (nv_inc _ 1) (by decide) rfl (fun ls hl => ?_)
                      refine lv_goto (tgt := 12) hx hb dL_areTiles_190 (by decide) ?_
                      have e2 : t_mx σ (10 * f + e) len (s_n σ) (k + 1) = t_mx σ (10 * f + e) len (s_n σ) k := t_mx_n (Or.inr c_160)
                      have e3 : t_ct σ (10 * f + e) len (s_n σ) (k + 1) = t_ct σ (10 * f + e) len (s_n σ) k := t_ct_n (fun z => by have := z.2; omega)
                      exact ih (k + 1) (by omega) (by omega) ls (by rw [e2, e3]; exact lv_sub hl [3, 4, 5, 6, 7, 8, 9, 10, 11, 12, 13, 2, 1, 0] rfl)
                    · refine lv_iconst (v := nI 1) hx hb dL_areTiles_179 (by decide +kernel) ?_
                      refine lv_goto (tgt := 184) hx hb dL_areTiles_180 (by decide) ?_
                      refine nv_iadd hx hb dL_areTiles_184 ?_
                      refine lv_istore (lv' := [(12, .int (nI ((t_ct σ (10 * f + e) len (s_n σ) k) + 1))), (11, .int (nI (t_mx σ (10 * f + e) len (s_n σ) k))), (0, .ref x0), (1, .int (nI f)), (2, .int (nI e)), (3, .int (nI len)), (4, .int (nI wa)), (5, .int (nI wb)), (6, .ref (la 0)), (7, .ref (la 1)), (8, .ref (la 3)), (9, .ref (la 7)), (10, .int (nI (q_sum σ (10 * f + e) wa wb (k + 1)))), (13, .int (nI k)), (14, .int (nI (t_sum σ len k (s_n σ)))), (15, .int (nI (t_lst σ len k (s_n σ)))), (16, .int (nI (s_n σ)))]) hx hb dL_areTiles_185 hl (by decide) rfl (fun ls hl => ?_)
                      refine lv_iinc (v := nI (k + 1)) (lv' := [(13, .int (nI (k + 1))), (12, .int (nI ((t_ct σ (10 * f + e) len (s_n σ) k) + 1))), (11, .int (nI (t_mx σ (10 * f + e) len (s_n σ) k))), (0, .ref x0), (1, .int (nI f)), (2, .int (nI e)), (3, .int (nI len)), (4, .int (nI wa)), (5, .int (nI wb)), (6, .ref (la 0)), (7, .ref (la 1)), (8, .ref (la 3)), (9, .ref (la 7)), (10, .int (nI (q_sum σ (10 * f + e) wa wb (k + 1)))), (14, .int (nI (t_sum σ len k (s_n σ)))), (15, .int (nI (t_lst σ len k (s_n σ)))), (16, .int (nI (s_n σ)))]) hx hb dL_areTiles_187 hl (k := 13) rfl (nv_inc _ 1) (by decide) rfl (fun ls hl => ?_)
                      refine lv_goto (tgt := 12) hx hb dL_areTiles_190 (by decide) ?_
                      have e2 : t_mx σ (10 * f + e) len (s_n σ) (k + 1) = t_mx σ (10 * f + e) len (s_n σ) k := t_mx_n (Or.inr c_160)
                      have e3 : t_ct σ (10 * f + e) len (s_n σ) (k + 1) = t_ct σ (10 * f + e) len (s_n σ) k + 1 := t_ct_y ⟨hpr, by omega⟩
                      exact ih (k + 1) (by omega) (by omega) ls (by rw [e2, e3]; exact lv_sub hl [3, 4, 5, 6, 7, 8, 9, 10, 11, 12, 13, 2, 1, 0] rfl)
                  · refine lv_iload hx hb dL_areTiles_163 (lv_at hl 14 rfl) ?_
                    refine lv_goto (tgt := 170) hx hb dL_areTiles_165 (by decide) ?_
                    refine lv_istore (lv' := [(11, .int (nI (t_sum σ len k (s_n σ)))), (0, .ref x0), (1, .int (nI f)), (2, .int (nI e)), (3, .int (nI len)), (4, .int (nI wa)), (5, .int (nI wb)), (6, .ref (la 0)), (7, .ref (la 1)), (8, .ref (la 3)), (9, .ref (la 7)), (10, .int (nI (q_sum σ (10 * f + e) wa wb (k + 1)))), (12, .int (nI (t_ct σ (10 * f + e) len (s_n σ) k))), (13, .int (nI k)), (14, .int (nI (t_sum σ len k (s_n σ)))), (15, .int (nI (t_lst σ len k (s_n σ)))), (16, .int (nI (s_n σ)))]) hx hb dL_areTiles_170 hl (by decide) rfl (fun ls hl => ?_)
                    refine lv_iload hx hb dL_areTiles_172 (lv_at hl 12 rfl) ?_
                    refine lv_iload hx hb dL_areTiles_174 (lv_at hl 15 rfl) ?_
                    refine nv_if_eq (tgt := 183) hx hb dL_areTiles_176 (by decide) (by omega) (fun c_176 => ?_) (fun c_176 => ?_)
                    · refine lv_iconst (v := nI 0) hx hb dL_areTiles_183 (by decide +kernel) ?_
                      refine nv_iadd hx hb dL_areTiles_184 ?_
                      refine lv_istore (lv' := [(12, .int (nI ((t_ct σ (10 * f + e) len (s_n σ) k) + 0))), (11, .int (nI (t_sum σ len k (s_n σ)))), (0, .ref x0), (1, .int (nI f)), (2, .int (nI e)), (3, .int (nI len)), (4, .int (nI wa)), (5, .int (nI wb)), (6, .ref (la 0)), (7, .ref (la 1)), (8, .ref (la 3)), (9, .ref (la 7)), (10, .int (nI (q_sum σ (10 * f + e) wa wb (k + 1)))), (13, .int (nI k)), (14, .int (nI (t_sum σ len k (s_n σ)))), (15, .int (nI (t_lst σ len k (s_n σ)))), (16, .int (nI (s_n σ)))]) hx hb dL_areTiles_185 hl (by decide) rfl (fun ls hl => ?_)
                      refine lv_iinc (v := nI (k + 1)) (lv' := [(13, .int (nI (k + 1))), (12, .int (nI ((t_ct σ (10 * f + e) len (s_n σ) k) + 0))), (11, .int (nI (t_sum σ len k (s_n σ)))), (0, .ref x0), (1, .int (nI f)), (2, .int (nI e)), (3, .int (nI len)), (4, .int (nI wa)), (5, .int (nI wb)), (6, .ref (la 0)), (7, .ref (la 1)), (8, .ref (la 3)), (9, .ref (la 7)), (10, .int (nI (q_sum σ (10 * f + e) wa wb (k + 1)))), (14, .int (nI (t_sum σ len k (s_n σ)))), (15, .int (nI (t_lst σ len k (s_n σ)))), (16, .int (nI (s_n σ)))]) hx hb dL_areTiles_187 hl (k := 13) rfl (nv_inc _ 1) (by decide) rfl (fun ls hl => ?_)
                      refine lv_goto (tgt := 12) hx hb dL_areTiles_190 (by decide) ?_
                      have e2 : t_mx σ (10 * f + e) len (s_n σ) (k + 1) = t_sum σ len k (s_n σ) := t_mx_y hpr c_160
                      have e3 : t_ct σ (10 * f + e) len (s_n σ) (k + 1) = t_ct σ (10 * f + e) len (s_n σ) k := t_ct_n (fun z => by have := z.2; omega)
                      exact ih (k + 1) (by omega) (by omega) ls (by rw [e2, e3]; exact lv_sub hl [3, 4, 5, 6, 7, 8, 9, 10, 11, 12, 13, 2, 1, 0] rfl)
                    · refine lv_iconst (v := nI 1) hx hb dL_areTiles_179 (by decide +kernel) ?_
                      refine lv_goto (tgt := 184) hx hb dL_areTiles_180 (by decide) ?_
                      refine nv_iadd hx hb dL_areTiles_184 ?_
                      refine lv_istore (lv' := [(12, .int (nI ((t_ct σ (10 * f + e) len (s_n σ) k) + 1))), (11, .int (nI (t_sum σ len k (s_n σ)))), (0, .ref x0), (1, .int (nI f)), (2, .int (nI e)), (3, .int (nI len)), (4, .int (nI wa)), (5, .int (nI wb)), (6, .ref (la 0)), (7, .ref (la 1)), (8, .ref (la 3)), (9, .ref (la 7)), (10, .int (nI (q_sum σ (10 * f + e) wa wb (k + 1)))), (13, .int (nI k)), (14, .int (nI (t_sum σ len k (s_n σ)))), (15, .int (nI (t_lst σ len k (s_n σ)))), (16, .int (nI (s_n σ)))]) hx hb dL_areTiles_185 hl (by decide) rfl (fun ls hl => ?_)
                      refine lv_iinc (v := nI (k + 1)) (lv' := [(13, .int (nI (k + 1))), (12, .int (nI ((t_ct σ (10 * f + e) len (s_n σ) k) + 1))), (11, .int (nI (t_sum σ len k (s_n σ)))), (0, .ref x0), (1, .int (nI f)), (2, .int (nI e)), (3, .int (nI len)), (4, .int (nI wa)), (5, .int (nI wb)), (6, .ref (la 0)), (7, .ref (la 1)), (8, .ref (la 3)), (9, .ref (la 7)), (10, .int (nI (q_sum σ (10 * f + e) wa wb (k + 1)))), (14, .int (nI (t_sum σ len k (s_n σ)))), (15, .int (nI (t_lst σ len k (s_n σ)))), (16, .int (nI (s_n σ)))]) hx hb dL_areTiles_187 hl (k := 13) rfl (nv_inc _ 1) (by decide) rfl (fun ls hl => ?_)
                      refine lv_goto (tgt := 12) hx hb dL_areTiles_190 (by decide) ?_
                      have e2 : t_mx σ (10 * f + e) len (s_n σ) (k + 1) = t_sum σ len k (s_n σ) := t_mx_y hpr c_160
                      have e3 : t_ct σ (10 * f + e) len (s_n σ) (k + 1) = t_ct σ (10 * f + e) len (s_n σ) k + 1 := t_ct_y ⟨hpr, by omega⟩
                      exact ih (k + 1) (by omega) (by omega) ls (by rw [e2, e3]; exact lv_sub hl [3, 4, 5, 6, 7, 8, 9, 10, 11, 12, 13, 2, 1, 0] rfl)
                · have hz_i := i_row i (by omega)
                  have hz_q : l_p σ i < 78 := pN_lt hz_i.1
                  refine lv_aload hx hb dL_areTiles_90 (lv_at hl 6 rfl) ?_
                  refine lv_iload hx hb dL_areTiles_92 (lv_at hl 16 rfl) ?_
                  refine nv_iald (q0 := 0) (t0 := 0) (l_p σ) hx hb hK hP rfl rfl (by omega) (by decide) dL_areTiles_94 ?_
                  refine lv_aload hx hb dL_areTiles_95 (lv_at hl 6 rfl) ?_
                  refine lv_iload hx hb dL_areTiles_97 (lv_at hl 13 rfl) ?_
                  refine nv_iald (q0 := 0) (t0 := 0) (l_p σ) hx hb hK hP rfl rfl (by omega) (by decide) dL_areTiles_99 ?_
                  refine nv_ne (tgt := 150) hx hb dL_areTiles_100 (by decide) (by omega) (by omega) (fun c_100 => ?_) (fun c_100 => ?_)
                  · refine lv_iinc (v := nI (i + 1)) (lv' := [(16, .int (nI (i + 1))), (0, .ref x0), (1, .int (nI f)), (2, .int (nI e)), (3, .int (nI len)), (4, .int (nI wa)), (5, .int (nI wb)), (6, .ref (la 0)), (7, .ref (la 1)), (8, .ref (la 3)), (9, .ref (la 7)), (10, .int (nI (q_sum σ (10 * f + e) wa wb (k + 1)))), (11, .int (nI (t_mx σ (10 * f + e) len (s_n σ) k))), (12, .int (nI (t_ct σ (10 * f + e) len (s_n σ) k))), (13, .int (nI k)), (14, .int (nI (t_sum σ len k i))), (15, .int (nI (t_lst σ len k i)))]) hx hb dL_areTiles_150 hl (k := 16) rfl (nv_inc _ 1) (by decide) rfl (fun ls hl => ?_)
                    refine lv_goto (tgt := 81) hx hb dL_areTiles_153 (by decide) ?_
                    have e4 : t_sum σ len k (i + 1) = t_sum σ len k i := t_sum_n (fun z => c_100 (congrArg pN z.1))
                    have e5 : t_lst σ len k (i + 1) = t_lst σ len k i := t_lst_n (fun z => c_100 (congrArg pN z.1.1))
                    exact ih2 (i + 1) (by omega) (by omega) ls (by rw [e4, e5]; exact lv_sub hl [1, 2, 3, 4, 5, 6, 7, 8, 9, 10, 11, 12, 13, 14, 15, 16, 0] rfl)
                  · refine lv_aload hx hb dL_areTiles_103 (lv_at hl 7 rfl) ?_
                    refine lv_iload hx hb dL_areTiles_105 (lv_at hl 16 rfl) ?_
                    refine nv_iald (q0 := 1) (t0 := 0) (s_ev σ) hx hb hK hP rfl rfl (by omega) (by decide) dL_areTiles_107 ?_
                    refine lv_iload_n hx hb dL_areTiles_108 rfl (lv_at hl 3 rfl) ?_
                    refine nv_idiv hx hb dL_areTiles_109 (by omega) (by omega) (by omega) ?_
                    refine lv_aload hx hb dL_areTiles_110 (lv_at hl 7 rfl) ?_
                    refine lv_iload hx hb dL_areTiles_112 (lv_at hl 13 rfl) ?_
                    refine nv_iald (q0 := 1) (t0 := 0) (s_ev σ) hx hb hK hP rfl rfl (by omega) (by decide) dL_areTiles_114 ?_
                    refine lv_iload_n hx hb dL_areTiles_115 rfl (lv_at hl 3 rfl) ?_
                    refine nv_idiv hx hb dL_areTiles_116 (by omega) (by omega) (by omega) ?_
                    refine nv_eq (tgt := 123) hx hb dL_areTiles_117 (by decide) (Nat.lt_of_le_of_lt (Nat.div_le_self _ _) (by omega)) (Nat.lt_of_le_of_lt (Nat.div_le_self _ _) (by omega)) (fun c_117 => ?_) (fun c_117 => ?_)
                    · have hsame : s_pr σ i = s_pr σ k ∧ s_ev σ i / len = s_ev σ k / len := ⟨(pN_eq hz_i.1 hz_k.1).mp c_100, c_117⟩
                      refine lv_iload hx hb dL_areTiles_123 (lv_at hl 14 rfl) ?_
                      refine lv_aload hx hb dL_areTiles_125 (lv_at hl 8 rfl) ?_
                      refine lv_iload hx hb dL_areTiles_127 (lv_at hl 16 rfl) ?_
                      refine nv_iald (q0 := 3) (t0 := 0) (s_vl σ) hx hb hK hP rfl rfl (by omega) (by decide) dL_areTiles_129 ?_
                      refine nv_iadd hx hb dL_areTiles_130 ?_
                      refine lv_istore (lv' := [(14, .int (nI ((t_sum σ len k i) + (s_vl σ i)))), (0, .ref x0), (1, .int (nI f)), (2, .int (nI e)), (3, .int (nI len)), (4, .int (nI wa)), (5, .int (nI wb)), (6, .ref (la 0)), (7, .ref (la 1)), (8, .ref (la 3)), (9, .ref (la 7)), (10, .int (nI (q_sum σ (10 * f + e) wa wb (k + 1)))), (11, .int (nI (t_mx σ (10 * f + e) len (s_n σ) k))), (12, .int (nI (t_ct σ (10 * f + e) len (s_n σ) k))), (13, .int (nI k)), (15, .int (nI (t_lst σ len k i))), (16, .int (nI i))]) hx hb dL_areTiles_131 hl (by decide) rfl (fun ls hl => ?_)
                      refine lv_iload hx hb dL_areTiles_133 (lv_at hl 15 rfl) ?_
                      refine lv_iload hx hb dL_areTiles_135 (lv_at hl 16 rfl) ?_
                      refine lv_iload hx hb dL_areTiles_137 (lv_at hl 14 rfl) ?_
                      refine nv_gt (tgt := 146) hx hb dL_areTiles_139 (by decide) (by omega) (by omega) (fun c_139 => ?_) (fun c_139 => ?_)
                      · refine lv_iconst (v := nI 0) hx hb dL_areTiles_146 (by decide +kernel) ?_
                        refine nv_and0 (t_lst_01 σ len k i) hx hb dL_areTiles_147 ?_
                        refine lv_istore (lv' := [(15, .int (nI 0)), (14, .int (nI ((t_sum σ len k i) + (s_vl σ i)))), (0, .ref x0), (1, .int (nI f)), (2, .int (nI e)), (3, .int (nI len)), (4, .int (nI wa)), (5, .int (nI wb)), (6, .ref (la 0)), (7, .ref (la 1)), (8, .ref (la 3)), (9, .ref (la 7)), (10, .int (nI (q_sum σ (10 * f + e) wa wb (k + 1)))), (11, .int (nI (t_mx σ (10 * f + e) len (s_n σ) k))), (12, .int (nI (t_ct σ (10 * f + e) len (s_n σ) k))), (13, .int (nI k)), (16, .int (nI i))]) hx hb dL_areTiles_148 hl (by decide) rfl (fun ls hl => ?_)
                        refine lv_iinc (v := nI (i + 1)) (lv' := [(16, .int (nI (i + 1))), (15, .int (nI 0)), (14, .int (nI ((t_sum σ len k i) + (s_vl σ i)))), (0, .ref x0), (1, .int (nI f)), (2, .int (nI e)), (3, .int (nI len)), (4, .int (nI wa)), (5, .int (nI wb)), (6, .ref (la 0)), (7, .ref (la 1)), (8, .ref (la 3)), (9, .ref (la 7)), (10, .int (nI (q_sum σ (10 * f + e) wa wb (k + 1)))), (11, .int (nI (t_mx σ (10 * f + e) len (s_n σ) k))), (12, .int (nI (t_ct σ (10 * f + e) len (s_n σ) k))), (13, .int (nI k))]) hx hb dL_areTiles_150 hl (k := 16) rfl (nv_inc _ 1) (by decide) rfl (fun ls hl => ?_)
                        refine lv_goto (tgt := 81) hx hb dL_areTiles_153 (by decide) ?_
                        have e4 : t_sum σ len k (i + 1) = t_sum σ len k i + s_vl σ i := t_sum_y hsame
                        have e5 : t_lst σ len k (i + 1) = 0 := t_lst_y hsame c_139
                        exact ih2 (i + 1) (by omega) (by omega) ls (by rw [e4, e5]; exact lv_sub hl [3, 4, 5, 6, 7, 8, 9, 10, 11, 12, 13, 14, 15, 16, 2, 1, 0] rfl)
                      · refine lv_iconst (v := nI 1) hx hb dL_areTiles_142 (by decide +kernel) ?_
                        refine lv_goto (tgt := 147) hx hb dL_areTiles_143 (by decide) ?_
                        refine nv_and1 (t_lst_01 σ len k i) hx hb dL_areTiles_147 ?_
                        refine lv_istore (lv' := [(15, .int (nI (t_lst σ len k i))), (14, .int (nI ((t_sum σ len k i) + (s_vl σ i)))), (0, .ref x0), (1, .int (nI f)), (2, .int (nI e)), (3, .int (nI len)), (4, .int (nI wa)), (5, .int (nI wb)), (6, .ref (la 0)), (7, .ref (la 1)), (8, .ref (la 3)), (9, .ref (la 7)), (10, .int (nI (q_sum σ (10 * f + e) wa wb (k + 1)))), (11, .int (nI (t_mx σ (10 * f + e) len (s_n σ) k))), (12, .int (nI (t_ct σ (10 * f + e) len (s_n σ) k))), (13, .int (nI k)), (16, .int (nI i))]) hx hb dL_areTiles_148 hl (by decide) rfl (fun ls hl => ?_)
                        refine lv_iinc (v := nI (i + 1)) (lv' := [(16, .int (nI (i + 1))), (15, .int (nI (t_lst σ len k i))), (14, .int (nI ((t_sum σ len k i) + (s_vl σ i)))), (0, .ref x0), (1, .int (nI f)), (2, .int (nI e)), (3, .int (nI len)), (4, .int (nI wa)), (5, .int (nI wb)), (6, .ref (la 0)), (7, .ref (la 1)), (8, .ref (la 3)), (9, .ref (la 7)), (10, .int (nI (q_sum σ (10 * f + e) wa wb (k + 1)))), (11, .int (nI (t_mx σ (10 * f + e) len (s_n σ) k))), (12, .int (nI (t_ct σ (10 * f + e) len (s_n σ) k))), (13, .int (nI k))]) hx hb dL_areTiles_150 hl (k := 16) rfl (nv_inc _ 1) (by decide) rfl (fun ls hl => ?_)
                        refine lv_goto (tgt := 81) hx hb dL_areTiles_153 (by decide) ?_
                        have e4 : t_sum σ len k (i + 1) = t_sum σ len k i + s_vl σ i := t_sum_y hsame
                        have e5 : t_lst σ len k (i + 1) = t_lst σ len k i := t_lst_n (fun z => absurd z.2 c_139)
                        exact ih2 (i + 1) (by omega) (by omega) ls (by rw [e4, e5]; exact lv_sub hl [3, 4, 5, 6, 7, 8, 9, 10, 11, 12, 13, 14, 15, 16, 2, 1, 0] rfl)
                    · refine lv_goto (tgt := 150) hx hb dL_areTiles_120 (by decide) ?_
                      refine lv_iinc (v := nI (i + 1)) (lv' := [(16, .int (nI (i + 1))), (0, .ref x0), (1, .int (nI f)), (2, .int (nI e)), (3, .int (nI len)), (4, .int (nI wa)), (5, .int (nI wb)), (6, .ref (la 0)), (7, .ref (la 1)), (8, .ref (la 3)), (9, .ref (la 7)), (10, .int (nI (q_sum σ (10 * f + e) wa wb (k + 1)))), (11, .int (nI (t_mx σ (10 * f + e) len (s_n σ) k))), (12, .int (nI (t_ct σ (10 * f + e) len (s_n σ) k))), (13, .int (nI k)), (14, .int (nI (t_sum σ len k i))), (15, .int (nI (t_lst σ len k i)))]) hx hb dL_areTiles_150 hl (k := 16) rfl (nv_inc _ 1) (by decide) rfl (fun ls hl => ?_)
                      refine lv_goto (tgt := 81) hx hb dL_areTiles_153 (by decide) ?_
                      have e4 : t_sum σ len k (i + 1) = t_sum σ len k i := t_sum_n (fun z => c_117 z.2)
                      have e5 : t_lst σ len k (i + 1) = t_lst σ len k i := t_lst_n (fun z => c_117 z.1.2)
                      exact ih2 (i + 1) (by omega) (by omega) ls (by rw [e4, e5]; exact lv_sub hl [1, 2, 3, 4, 5, 6, 7, 8, 9, 10, 11, 12, 13, 14, 15, 16, 0] rfl)
            exact lp_81 (s_n σ + 1) 0 (Nat.zero_le _) (by omega) ls (lv_sub hl [3, 4, 5, 6, 7, 8, 9, 10, 11, 12, 13, 14, 15, 16, 2, 1, 0] rfl)
          refine lv_iload hx hb dL_areTiles_38 (lv_at hl 10 rfl) ?_
          refine lv_aload hx hb dL_areTiles_40 (lv_at hl 7 rfl) ?_
          refine lv_iload hx hb dL_areTiles_42 (lv_at hl 13 rfl) ?_
          refine nv_iald (q0 := 1) (t0 := 0) (s_ev σ) hx hb hK hP rfl rfl (by omega) (by decide) dL_areTiles_44 ?_
          refine lv_iload hx hb dL_areTiles_45 (lv_at hl 4 rfl) ?_
          refine nv_lt (tgt := 68) hx hb dL_areTiles_47 (by decide) (by omega) (by omega) (fun c_47 => ?_) (fun c_47 => ?_)
          · refine lv_iconst (v := nI 0) hx hb dL_areTiles_68 (by decide +kernel) ?_
            refine nv_iadd hx hb dL_areTiles_69 ?_
            refine lv_istore (lv' := [(10, .int (nI ((q_sum σ (10 * f + e) wa wb k) + 0))), (0, .ref x0), (1, .int (nI f)), (2, .int (nI e)), (3, .int (nI len)), (4, .int (nI wa)), (5, .int (nI wb)), (6, .ref (la 0)), (7, .ref (la 1)), (8, .ref (la 3)), (9, .ref (la 7)), (11, .int (nI (t_mx σ (10 * f + e) len (s_n σ) k))), (12, .int (nI (t_ct σ (10 * f + e) len (s_n σ) k))), (13, .int (nI k))]) hx hb dL_areTiles_70 hl (by decide) rfl (fun ls hl => ?_)
            have e1 : q_sum σ (10 * f + e) wa wb (k + 1) = q_sum σ (10 * f + e) wa wb k := q_sum_n (fun z => by have := z.2.1; omega)
            exact hj_72 ls (by rw [e1]; exact lv_sub hl [1, 2, 3, 4, 5, 6, 7, 8, 9, 10, 0, 11, 12, 13] rfl)
          · refine lv_aload hx hb dL_areTiles_50 (lv_at hl 7 rfl) ?_
            refine lv_iload hx hb dL_areTiles_52 (lv_at hl 13 rfl) ?_
            refine nv_iald (q0 := 1) (t0 := 0) (s_ev σ) hx hb hK hP rfl rfl (by omega) (by decide) dL_areTiles_54 ?_
            refine lv_iload hx hb dL_areTiles_55 (lv_at hl 5 rfl) ?_
            refine nv_gt (tgt := 68) hx hb dL_areTiles_57 (by decide) (by omega) (by omega) (fun c_57 => ?_) (fun c_57 => ?_)
            · refine lv_iconst (v := nI 0) hx hb dL_areTiles_68 (by decide +kernel) ?_
              refine nv_iadd hx hb dL_areTiles_69 ?_
              refine lv_istore (lv' := [(10, .int (nI ((q_sum σ (10 * f + e) wa wb k) + 0))), (0, .ref x0), (1, .int (nI f)), (2, .int (nI e)), (3, .int (nI len)), (4, .int (nI wa)), (5, .int (nI wb)), (6, .ref (la 0)), (7, .ref (la 1)), (8, .ref (la 3)), (9, .ref (la 7)), (11, .int (nI (t_mx σ (10 * f + e) len (s_n σ) k))), (12, .int (nI (t_ct σ (10 * f + e) len (s_n σ) k))), (13, .int (nI k))]) hx hb dL_areTiles_70 hl (by decide) rfl (fun ls hl => ?_)
              have e1 : q_sum σ (10 * f + e) wa wb (k + 1) = q_sum σ (10 * f + e) wa wb k := q_sum_n (fun z => by have := z.2.2; omega)
              exact hj_72 ls (by rw [e1]; exact lv_sub hl [1, 2, 3, 4, 5, 6, 7, 8, 9, 10, 0, 11, 12, 13] rfl)
            · refine lv_aload hx hb dL_areTiles_60 (lv_at hl 8 rfl) ?_
              refine lv_iload hx hb dL_areTiles_62 (lv_at hl 13 rfl) ?_
              refine nv_iald (q0 := 3) (t0 := 0) (s_vl σ) hx hb hK hP rfl rfl (by omega) (by decide) dL_areTiles_64 ?_
              refine lv_goto (tgt := 69) hx hb dL_areTiles_65 (by decide) ?_
              refine nv_iadd hx hb dL_areTiles_69 ?_
              refine lv_istore (lv' := [(10, .int (nI ((q_sum σ (10 * f + e) wa wb k) + (s_vl σ k)))), (0, .ref x0), (1, .int (nI f)), (2, .int (nI e)), (3, .int (nI len)), (4, .int (nI wa)), (5, .int (nI wb)), (6, .ref (la 0)), (7, .ref (la 1)), (8, .ref (la 3)), (9, .ref (la 7)), (11, .int (nI (t_mx σ (10 * f + e) len (s_n σ) k))), (12, .int (nI (t_ct σ (10 * f + e) len (s_n σ) k))), (13, .int (nI k))]) hx hb dL_areTiles_70 hl (by decide) rfl (fun ls hl => ?_)
              have e1 : q_sum σ (10 * f + e) wa wb (k + 1) = q_sum σ (10 * f + e) wa wb k + s_vl σ k := q_sum_y ⟨hpr, by omega, by omega⟩
              exact hj_72 ls (by rw [e1]; exact lv_sub hl [1, 2, 3, 4, 5, 6, 7, 8, 9, 10, 0, 11, 12, 13] rfl)
        · have hpr : ¬ s_pr σ k = 10 * f + e := fun z => c_32 ((congrArg pN z).trans (pN_of hf he))
          refine lv_goto (tgt := 187) hx hb dL_areTiles_35 (by decide) ?_
          refine lv_iinc (v := nI (k + 1)) (lv' := [(13, .int (nI (k + 1))), (0, .ref x0), (1, .int (nI f)), (2, .int (nI e)), (3, .int (nI len)), (4, .int (nI wa)), (5, .int (nI wb)), (6, .ref (la 0)), (7, .ref (la 1)), (8, .ref (la 3)), (9, .ref (la 7)), (10, .int (nI (q_sum σ (10 * f + e) wa wb k))), (11, .int (nI (t_mx σ (10 * f + e) len (s_n σ) k))), (12, .int (nI (t_ct σ (10 * f + e) len (s_n σ) k)))]) hx hb dL_areTiles_187 hl (k := 13) rfl (nv_inc _ 1) (by decide) rfl (fun ls hl => ?_)
          refine lv_goto (tgt := 12) hx hb dL_areTiles_190 (by decide) ?_
          have e1 : q_sum σ (10 * f + e) wa wb (k + 1) = q_sum σ (10 * f + e) wa wb k := q_sum_n (fun z => hpr z.1)
          have e2 : t_mx σ (10 * f + e) len (s_n σ) (k + 1) = t_mx σ (10 * f + e) len (s_n σ) k := t_mx_n (Or.inl hpr)
          have e3 : t_ct σ (10 * f + e) len (s_n σ) (k + 1) = t_ct σ (10 * f + e) len (s_n σ) k := t_ct_n (fun z => hpr z.1)
          exact ih (k + 1) (by omega) (by omega) ls (by rw [e1, e2, e3]; exact lv_sub hl [1, 2, 3, 4, 5, 6, 7, 8, 9, 10, 11, 12, 13, 0] rfl)
  exact lp_12 (s_n σ + 1) 0 (Nat.zero_le _) (by omega) ls (lv_sub hl [4, 5, 6, 7, 8, 9, 10, 11, 12, 13, 3, 2, 1, 0] rfl)
