/-! the law's isTold (laid by wip/p24/gen/istold24.py) -/
theorem q_uns_s (σ : St) (i : Nat) : q_uns σ (i + 1) = q_uns σ i + (1 - q_snd σ i) := by
  simp only [q_uns, q_snd]
  split <;> rfl
theorem q_rev_y {σ : St} {q T j : Nat} (h : q_join σ q (j * T) (j * T) = q_join σ q (j * T) (s_now σ)) : q_rev σ q T (j + 1) = q_rev σ q T j := by
  simp only [q_rev]
  rw [if_pos h.symm]
  rfl
theorem q_rev_n {σ : St} {q T j : Nat} (h : ¬ q_join σ q (j * T) (j * T) = q_join σ q (j * T) (s_now σ)) : q_rev σ q T (j + 1) = q_rev σ q T j + 1 := by
  simp only [q_rev]
  rw [if_neg (fun z => h z.symm)]

set_option maxHeartbeats 4000000 in
set_option maxRecDepth 100000 in
theorem c_L_isTold (l : Launch) (dD : va_G) (cI cR cS : ClassId) (lo : Nat) (hfl : l.stackTraces = false) (la : Nat → Nat) (x0 : Nat) (b ra sb hd ol : Nat → Nat) (σ : St) (hI : sI σ) (hX : xI σ hd ol) (hL : lI σ) (y z : Int32) : Met l yL_isTold wsL_isTold ({ frames := 11, cells := 500, slots := 3000, locals := 214 }) (ePc dD cI cR cS lo [.ref x0, .int y, .int z, .ref (la 0), .ref (la 1), .ref (la 2), .ref (la 3), .ref (la 4), .ref (la 5), .ref (la 6), .ref (la 7)] (fun H => va_P dD vwCl (lW cI la σ ++ xW cI cR cS x0 b ra sb hd ol σ) H)) (lK (fun r => r = nI 1)) 500 3000 (fun _ => False) := by
  refine Met.ofW (cc := cL_isTold) (maxL := 21) (ret := (some .boolean)) (by decide) rfl ?_
  intro p e_ s m args below meth c s₁ B hml hv
  obtain ⟨rfl, hE, hP⟩ := hv
  have hx := B.exec
  have hb := B.bytes
  have hr := B.returns
  have hts := atoms_spec (ws := wsL_isTold) B.pre
  have hown : s.vm.findClass RL = some m.cls := findClass_of_methodNamed B.named
  have hlocks := B.notSynchronized
  have hK := hE.1.1
  obtain ⟨i_now, i_n, i_tk, i_k, i_lt, i_row, i_cp, i_srv⟩ := id hI
  have hz_e := hL.1
  have hz_e2 := hL.2.1
  have hl := lv_entry ([.ref x0, .int y, .int z, .ref (la 0), .ref (la 1), .ref (la 2), .ref (la 3), .ref (la 4), .ref (la 5), .ref (la 6), .ref (la 7)]) (n := 21) (Nat.le_of_ble_eq_true rfl)
  rw [lg_entry_eq]
  generalize (lg_sl ([.ref x0, .int y, .int z, .ref (la 0), .ref (la 1), .ref (la 2), .ref (la 3), .ref (la 4), .ref (la 5), .ref (la 6), .ref (la 7)]) ++ List.replicate (21 - (lg_sl ([.ref x0, .int y, .int z, .ref (la 0), .ref (la 1), .ref (la 2), .ref (la 3), .ref (la 4), .ref (la 5), .ref (la 6), .ref (la 7)])).length) Slot.unset).toArray = ls at hl ⊢
  have hl : lv_has ls 21 [(0, .ref x0), (1, .int y), (2, .int z), (3, .ref (la 0)), (4, .ref (la 1)), (5, .ref (la 2)), (6, .ref (la 3)), (7, .ref (la 4)), (8, .ref (la 5)), (9, .ref (la 6)), (10, .ref (la 7))] := hl
  have hk : kH s.heap s.heap := kH.rf
  refine lv_iconst (v := nI 0) hx hb dL_isTold_0 (by decide +kernel) ?_
  refine lv_istore (lv' := [(11, .int (nI 0)), (0, .ref x0), (1, .int y), (2, .int z), (3, .ref (la 0)), (4, .ref (la 1)), (5, .ref (la 2)), (6, .ref (la 3)), (7, .ref (la 4)), (8, .ref (la 5)), (9, .ref (la 6)), (10, .ref (la 7))]) hx hb dL_isTold_1 hl (by decide) rfl (fun ls hl => ?_)
  have hj_54 : ∀ (H : Heap) (_ : kH s.heap H) (_ : va_P dD vwCl (lW cI la σ ++ xW cI cR cS x0 b ra sb hd ol σ) H) (ls : Array Slot), lv_has ls 21 [(0, .ref x0), (1, .int y), (2, .int z), (3, .ref (la 0)), (4, .ref (la 1)), (5, .ref (la 2)), (6, .ref (la 3)), (7, .ref (la 4)), (8, .ref (la 5)), (9, .ref (la 6)), (10, .ref (la 7))] → W p l e_ (headSpec wsL_isTold ({ frames := 11, cells := 500, slots := 3000, locals := 214 })).room s m (([.ref x0, .int y, .int z, .ref (la 0), .ref (la 1), .ref (la 2), .ref (la 3), .ref (la 4), .ref (la 5), .ref (la 6), .ref (la 7)] : List Value).toArray) below meth c H [] (120) (720) (MQ below (lK (fun r => r = nI 1)) (([.ref x0, .int y, .int z, .ref (la 0), .ref (la 1), .ref (la 2), .ref (la 3), .ref (la 4), .ref (la 5), .ref (la 6), .ref (la 7)] : List Value).toArray) s 500 3000 (fun _ => False)) (F0 m 54 ls []) := by
    intro H hk hP ls hl
    refine lv_iconst (v := nI 0) hx hb dL_isTold_54 (by decide +kernel) ?_
    refine lv_istore (lv' := [(11, .int (nI 0)), (0, .ref x0), (1, .int y), (2, .int z), (3, .ref (la 0)), (4, .ref (la 1)), (5, .ref (la 2)), (6, .ref (la 3)), (7, .ref (la 4)), (8, .ref (la 5)), (9, .ref (la 6)), (10, .ref (la 7))]) hx hb dL_isTold_55 hl (by decide) rfl (fun ls hl => ?_)
    refine lv_iconst (v := nI 0) hx hb dL_isTold_57 (by decide +kernel) ?_
    refine lv_istore (lv' := [(12, .int (nI 0)), (11, .int (nI 0)), (0, .ref x0), (1, .int y), (2, .int z), (3, .ref (la 0)), (4, .ref (la 1)), (5, .ref (la 2)), (6, .ref (la 3)), (7, .ref (la 4)), (8, .ref (la 5)), (9, .ref (la 6)), (10, .ref (la 7))]) hx hb dL_isTold_58 hl (by decide) rfl (fun ls hl => ?_)
    have hj_178 : ∀ (H : Heap) (_ : kH s.heap H) (_ : va_P dD vwCl (lW cI la σ ++ xW cI cR cS x0 b ra sb hd ol σ) H) (ls : Array Slot), lv_has ls 21 [(0, .ref x0), (1, .int y), (2, .int z), (3, .ref (la 0)), (4, .ref (la 1)), (5, .ref (la 2)), (6, .ref (la 3)), (7, .ref (la 4)), (8, .ref (la 5)), (9, .ref (la 6)), (10, .ref (la 7)), (11, .int (nI (q_uns σ (s_k σ))))] → W p l e_ (headSpec wsL_isTold ({ frames := 11, cells := 500, slots := 3000, locals := 214 })).room s m (([.ref x0, .int y, .int z, .ref (la 0), .ref (la 1), .ref (la 2), .ref (la 3), .ref (la 4), .ref (la 5), .ref (la 6), .ref (la 7)] : List Value).toArray) below meth c H [] (240) (1440) (MQ below (lK (fun r => r = nI 1)) (([.ref x0, .int y, .int z, .ref (la 0), .ref (la 1), .ref (la 2), .ref (la 3), .ref (la 4), .ref (la 5), .ref (la 6), .ref (la 7)] : List Value).toArray) s 500 3000 (fun _ => False)) (F0 m 178 ls []) := by
      intro H hk hP ls hl
      refine lv_iconst (v := nI 0) hx hb dL_isTold_178 (by decide +kernel) ?_
      refine lv_istore (lv' := [(12, .int (nI 0)), (0, .ref x0), (1, .int y), (2, .int z), (3, .ref (la 0)), (4, .ref (la 1)), (5, .ref (la 2)), (6, .ref (la 3)), (7, .ref (la 4)), (8, .ref (la 5)), (9, .ref (la 6)), (10, .ref (la 7)), (11, .int (nI (q_uns σ (s_k σ))))]) hx hb dL_isTold_179 hl (by decide) rfl (fun ls hl => ?_)
      refine lv_iconst (v := nI 0) hx hb dL_isTold_181 (by decide +kernel) ?_
      refine lv_istore (lv' := [(13, .int (nI 0)), (12, .int (nI 0)), (0, .ref x0), (1, .int y), (2, .int z), (3, .ref (la 0)), (4, .ref (la 1)), (5, .ref (la 2)), (6, .ref (la 3)), (7, .ref (la 4)), (8, .ref (la 5)), (9, .ref (la 6)), (10, .ref (la 7)), (11, .int (nI (q_uns σ (s_k σ))))]) hx hb dL_isTold_182 hl (by decide) rfl (fun ls hl => ?_)
      have hj_289 : ∀ (H : Heap) (_ : kH s.heap H) (_ : va_P dD vwCl (lW cI la σ ++ xW cI cR cS x0 b ra sb hd ol σ) H) (ls : Array Slot), lv_has ls 21 [(0, .ref x0), (1, .int y), (2, .int z), (3, .ref (la 0)), (4, .ref (la 1)), (5, .ref (la 2)), (6, .ref (la 3)), (7, .ref (la 4)), (8, .ref (la 5)), (9, .ref (la 6)), (10, .ref (la 7)), (11, .int (nI (q_uns σ (s_k σ)))), (12, .int (nI (q_skew σ 60)))] → W p l e_ (headSpec wsL_isTold ({ frames := 11, cells := 500, slots := 3000, locals := 214 })).room s m (([.ref x0, .int y, .int z, .ref (la 0), .ref (la 1), .ref (la 2), .ref (la 3), .ref (la 4), .ref (la 5), .ref (la 6), .ref (la 7)] : List Value).toArray) below meth c H [] (360) (2160) (MQ below (lK (fun r => r = nI 1)) (([.ref x0, .int y, .int z, .ref (la 0), .ref (la 1), .ref (la 2), .ref (la 3), .ref (la 4), .ref (la 5), .ref (la 6), .ref (la 7)] : List Value).toArray) s 500 3000 (fun _ => False)) (F0 m 289 ls []) := by
        intro H hk hP ls hl
        refine lv_iconst (v := nI 0) hx hb dL_isTold_289 (by decide +kernel) ?_
        refine lv_istore (lv' := [(13, .int (nI 0)), (0, .ref x0), (1, .int y), (2, .int z), (3, .ref (la 0)), (4, .ref (la 1)), (5, .ref (la 2)), (6, .ref (la 3)), (7, .ref (la 4)), (8, .ref (la 5)), (9, .ref (la 6)), (10, .ref (la 7)), (11, .int (nI (q_uns σ (s_k σ)))), (12, .int (nI (q_skew σ 60)))]) hx hb dL_isTold_290 hl (by decide) rfl (fun ls hl => ?_)
        have hj_618 : ∀ (H : Heap) (_ : kH s.heap H) (_ : va_P dD vwCl (lW cI la σ ++ xW cI cR cS x0 b ra sb hd ol σ) H) (ls : Array Slot), lv_has ls 21 [(0, .ref x0), (1, .int y), (2, .int z), (3, .ref (la 0)), (4, .ref (la 1)), (5, .ref (la 2)), (6, .ref (la 3)), (7, .ref (la 4)), (8, .ref (la 5)), (9, .ref (la 6)), (10, .ref (la 7)), (11, .int (nI (q_uns σ (s_k σ)))), (12, .int (nI (q_skew σ 60)))] → W p l e_ (headSpec wsL_isTold ({ frames := 11, cells := 500, slots := 3000, locals := 214 })).room s m (([.ref x0, .int y, .int z, .ref (la 0), .ref (la 1), .ref (la 2), .ref (la 3), .ref (la 4), .ref (la 5), .ref (la 6), .ref (la 7)] : List Value).toArray) below meth c H [] (428) (2568) (MQ below (lK (fun r => r = nI 1)) (([.ref x0, .int y, .int z, .ref (la 0), .ref (la 1), .ref (la 2), .ref (la 3), .ref (la 4), .ref (la 5), .ref (la 6), .ref (la 7)] : List Value).toArray) s 500 3000 (fun _ => False)) (F0 m 618 ls []) := by
          intro H hk hP ls hl
          refine lv_aload_n hx hb dL_isTold_618 rfl (lv_at hl 0 rfl) ?_
          refine vp_callSi (va_Run.run (va_runV (As := []) (rest := []) ⟨hx, hb, hml, hown, hts⟩ (c_X2_now l dD cI cR cS lo x0 b ra sb hd ol σ hI) (cwV 0 hts gL_isTold_X2_now rfl rfl rfl (by decide +kernel) ⟨Nat.le_of_ble_eq_true rfl, Nat.le_of_ble_eq_true rfl⟩) (ePreV hE (kH.S hk) hP (k := 8) rfl rfl (vP_app2 hP)) rfl rfl hl.1 rfl (lv_room (Nat.le_of_ble_eq_true rfl)) dL_isTold_619 ⟨(by omega : 428 + 0 ≤ 500), (by omega : 2568 + 0 ≤ 3000)⟩)) (fun r_619 hr_619 => ?_)
          have hr_619 : r_619 = nI (s_now σ) := hr_619
          subst hr_619
          refine lv_aload hx hb dL_isTold_622 (lv_at hl 10 rfl) ?_
          refine lv_iconst (v := nI 0) hx hb dL_isTold_624 (by decide +kernel) ?_
          refine nv_ialdE (q0 := 7) (t0 := 0) (v := s_now σ) (l_g σ) (rfl) hx hb hK hP rfl rfl (by decide) (by decide) dL_isTold_625 ?_
          refine lv_icmp_ne (tgt := 962) hx hb dL_isTold_626 (by decide) (fun c_626 => absurd rfl c_626) (fun c_626 => ?_)
          refine lv_aload_n hx hb dL_isTold_629 rfl (lv_at hl 0 rfl) ?_
          refine vp_callSi (va_Run.run (va_runV (As := []) (rest := []) ⟨hx, hb, hml, hown, hts⟩ (c_X2_rows l dD cI cR cS lo x0 b ra sb hd ol σ hI) (cwV 0 hts gL_isTold_X2_rows rfl rfl rfl (by decide +kernel) ⟨Nat.le_of_ble_eq_true rfl, Nat.le_of_ble_eq_true rfl⟩) (ePreV hE (kH.S hk) hP (k := 8) rfl rfl (vP_app2 hP)) rfl rfl hl.1 rfl (lv_room (Nat.le_of_ble_eq_true rfl)) dL_isTold_630 ⟨(by omega : 428 + 0 ≤ 500), (by omega : 2568 + 0 ≤ 3000)⟩)) (fun r_630 hr_630 => ?_)
          have hr_630 : r_630 = nI (s_n σ) := hr_630
          subst hr_630
          refine lv_aload hx hb dL_isTold_633 (lv_at hl 10 rfl) ?_
          refine lv_iconst (v := nI 1) hx hb dL_isTold_635 (by decide +kernel) ?_
          refine nv_ialdE (q0 := 7) (t0 := 0) (v := s_n σ) (l_g σ) (rfl) hx hb hK hP rfl rfl (by decide) (by decide) dL_isTold_636 ?_
          refine lv_icmp_ne (tgt := 962) hx hb dL_isTold_637 (by decide) (fun c_637 => absurd rfl c_637) (fun c_637 => ?_)
          refine lv_aload_n hx hb dL_isTold_640 rfl (lv_at hl 0 rfl) ?_
          refine vp_callSi (va_Run.run (va_runV (As := []) (rest := []) ⟨hx, hb, hml, hown, hts⟩ (c_X2_lag l dD cI cR cS lo x0 b ra sb hd ol σ hI) (cwV 0 hts gL_isTold_X2_lag rfl rfl rfl (by decide +kernel) ⟨Nat.le_of_ble_eq_true rfl, Nat.le_of_ble_eq_true rfl⟩) (ePreV hE (kH.S hk) hP (k := 8) rfl rfl (vP_app2 hP)) rfl rfl hl.1 rfl (lv_room (Nat.le_of_ble_eq_true rfl)) dL_isTold_641 ⟨(by omega : 428 + 0 ≤ 500), (by omega : 2568 + 0 ≤ 3000)⟩)) (fun r_641 hr_641 => ?_)
          have hr_641 : r_641 = nI ((s_n σ) - (s_tk σ)) := hr_641
          subst hr_641
          refine lv_aload hx hb dL_isTold_644 (lv_at hl 10 rfl) ?_
          refine lv_iconst (v := nI 1) hx hb dL_isTold_646 (by decide +kernel) ?_
          refine nv_ialdE (q0 := 7) (t0 := 0) (v := s_n σ) (l_g σ) (rfl) hx hb hK hP rfl rfl (by decide) (by decide) dL_isTold_647 ?_
          refine lv_aload hx hb dL_isTold_648 (lv_at hl 10 rfl) ?_
          refine lv_iconst (v := nI 2) hx hb dL_isTold_650 (by decide +kernel) ?_
          refine nv_ialdE (q0 := 7) (t0 := 0) (v := s_tk σ) (l_g σ) (rfl) hx hb hK hP rfl rfl (by decide) (by decide) dL_isTold_651 ?_
          refine nv_isub hx hb dL_isTold_652 (by omega) ?_
          refine lv_icmp_ne (tgt := 962) hx hb dL_isTold_653 (by decide) (fun c_653 => absurd rfl c_653) (fun c_653 => ?_)
          refine lv_aload_n hx hb dL_isTold_656 rfl (lv_at hl 0 rfl) ?_
          refine vp_callSi (va_Run.run (va_runV (As := []) (rest := []) ⟨hx, hb, hml, hown, hts⟩ (c_X2_skew l dD cI cR cS lo x0 b ra sb hd ol σ hI hX) (cwV 0 hts gL_isTold_X2_skew rfl rfl rfl (by decide +kernel) ⟨Nat.le_of_ble_eq_true rfl, Nat.le_of_ble_eq_true rfl⟩) (ePreV hE (kH.S hk) hP (k := 8) rfl rfl (vP_app2 hP)) rfl rfl hl.1 rfl (lv_room (Nat.le_of_ble_eq_true rfl)) dL_isTold_657 ⟨(by omega : 428 + 0 ≤ 500), (by omega : 2568 + 0 ≤ 3000)⟩)) (fun r_657 hr_657 => ?_)
          have hr_657 : r_657 = nI (q_skew σ 60) := hr_657
          subst hr_657
          refine lv_iload hx hb dL_isTold_660 (lv_at hl 12 rfl) ?_
          refine lv_icmp_ne (tgt := 962) hx hb dL_isTold_662 (by decide) (fun c_662 => absurd rfl c_662) (fun c_662 => ?_)
          refine lv_aload_n hx hb dL_isTold_665 rfl (lv_at hl 0 rfl) ?_
          refine vp_callSi (va_Run.run (va_runV (As := []) (rest := []) ⟨hx, hb, hml, hown, hts⟩ (c_X2_servings l dD cI cR cS lo x0 b ra sb hd ol σ hI) (cwV 0 hts gL_isTold_X2_servings rfl rfl rfl (by decide +kernel) ⟨Nat.le_of_ble_eq_true rfl, Nat.le_of_ble_eq_true rfl⟩) (ePreV hE (kH.S hk) hP (k := 8) rfl rfl (vP_app2 hP)) rfl rfl hl.1 rfl (lv_room (Nat.le_of_ble_eq_true rfl)) dL_isTold_666 ⟨(by omega : 428 + 0 ≤ 500), (by omega : 2568 + 0 ≤ 3000)⟩)) (fun r_666 hr_666 => ?_)
          have hr_666 : r_666 = nI (s_k σ) := hr_666
          subst hr_666
          refine lv_aload hx hb dL_isTold_669 (lv_at hl 10 rfl) ?_
          refine lv_iconst (v := nI 3) hx hb dL_isTold_671 (by decide +kernel) ?_
          refine nv_ialdE (q0 := 7) (t0 := 0) (v := s_k σ) (l_g σ) (rfl) hx hb hK hP rfl rfl (by decide) (by decide) dL_isTold_672 ?_
          refine lv_icmp_ne (tgt := 962) hx hb dL_isTold_673 (by decide) (fun c_673 => absurd rfl c_673) (fun c_673 => ?_)
          refine lv_aload_n hx hb dL_isTold_676 rfl (lv_at hl 0 rfl) ?_
          refine vp_callSi (va_Run.run (va_runV (As := []) (rest := []) ⟨hx, hb, hml, hown, hts⟩ (c_X2_unsound l dD cI cR cS lo x0 b ra sb hd ol σ hI hX) (cwV 0 hts gL_isTold_X2_unsound rfl rfl rfl (by decide +kernel) ⟨Nat.le_of_ble_eq_true rfl, Nat.le_of_ble_eq_true rfl⟩) (ePreV hE (kH.S hk) hP (k := 8) rfl rfl (vP_app2 hP)) rfl rfl hl.1 rfl (lv_room (Nat.le_of_ble_eq_true rfl)) dL_isTold_677 ⟨(by omega : 428 + 0 ≤ 500), (by omega : 2568 + 0 ≤ 3000)⟩)) (fun r_677 hr_677 => ?_)
          have hr_677 : r_677 = nI (q_uns σ (s_k σ)) := hr_677
          subst hr_677
          refine lv_iload hx hb dL_isTold_680 (lv_at hl 11 rfl) ?_
          refine lv_icmp_ne (tgt := 962) hx hb dL_isTold_682 (by decide) (fun c_682 => absurd rfl c_682) (fun c_682 => ?_)
          refine lv_aload_n hx hb dL_isTold_685 rfl (lv_at hl 0 rfl) ?_
          refine lv_aload hx hb dL_isTold_686 (lv_at hl 10 rfl) ?_
          refine lv_iconst (v := nI 1) hx hb dL_isTold_688 (by decide +kernel) ?_
          refine nv_ialdE (q0 := 7) (t0 := 0) (v := s_n σ) (l_g σ) (rfl) hx hb hK hP rfl rfl (by decide) (by decide) dL_isTold_689 ?_
          refine nx_callKv (v := ((-71))) (vx_runSW (As := [.ref x0, .int (nI (s_n σ))]) (rest := []) ⟨hx, hb, hml, hown, hts⟩ (c_L_value l dD cI cR cS lo hfl x0 b ra sb hd ol σ hI hX (nI (s_n σ))) (vx_cwSW 2 hts gL_isTold_L_value rfl rfl rfl (by decide +kernel) ⟨Nat.le_of_ble_eq_true rfl, Nat.le_of_ble_eq_true rfl⟩) (ePreS hE (kH.S hk) (vP_app2 hP)) rfl rfl hl.1 rfl (lv_room (Nat.le_of_ble_eq_true rfl)) dL_isTold_690 ⟨(by omega : 428 + 1 ≤ 500), (by omega : 2568 + 6 ≤ 3000)⟩) (fun r h => hv_r (ri_x (by omega)) h) (fun H1 hk_690 => ?_)
          have hP := hk_690.P hP
          have hk := hk.tr hk_690
          refine lv_bipush (v := (-71)) hx hb dL_isTold_693 (by decide +kernel) ?_
          refine lv_icmp_ne (tgt := 962) hx hb dL_isTold_695 (by decide) (fun c_695 => absurd rfl c_695) (fun c_695 => ?_)
          refine lv_aload_n hx hb dL_isTold_698 rfl (lv_at hl 0 rfl) ?_
          refine lv_iconst (v := (-1)) hx hb dL_isTold_699 (by decide +kernel) ?_
          refine nx_callKv (v := ((-71))) (vx_runSW (As := [.ref x0, .int ((-1))]) (rest := []) ⟨hx, hb, hml, hown, hts⟩ (c_L_late l dD cI cR cS lo hfl x0 b ra sb hd ol σ hI hX ((-1))) (vx_cwSW 2 hts gL_isTold_L_late rfl rfl rfl (by decide +kernel) ⟨Nat.le_of_ble_eq_true rfl, Nat.le_of_ble_eq_true rfl⟩) (ePreS hE (kH.S hk) (vP_app2 hP)) rfl rfl hl.1 rfl (lv_room (Nat.le_of_ble_eq_true rfl)) dL_isTold_700 ⟨(by omega : 428 + 1 + 1 ≤ 500), (by omega : 2568 + 6 + 6 ≤ 3000)⟩) (fun r h => hv_r (ri_m1) h) (fun H1 hk_700 => ?_)
          have hP := hk_700.P hP
          have hk := hk.tr hk_700
          refine lv_bipush (v := (-71)) hx hb dL_isTold_703 (by decide +kernel) ?_
          refine lv_icmp_ne (tgt := 962) hx hb dL_isTold_705 (by decide) (fun c_705 => absurd rfl c_705) (fun c_705 => ?_)
          refine lv_aload_n hx hb dL_isTold_708 rfl (lv_at hl 0 rfl) ?_
          refine lv_aload hx hb dL_isTold_709 (lv_at hl 10 rfl) ?_
          refine lv_iconst (v := nI 3) hx hb dL_isTold_711 (by decide +kernel) ?_
          refine nv_ialdE (q0 := 7) (t0 := 0) (v := s_k σ) (l_g σ) (rfl) hx hb hK hP rfl rfl (by decide) (by decide) dL_isTold_712 ?_
          refine nx_callKv (v := ((-71))) (vx_runSW (As := [.ref x0, .int (nI (s_k σ))]) (rest := []) ⟨hx, hb, hml, hown, hts⟩ (c_L_served l dD cI cR cS lo hfl x0 b ra sb hd ol σ hI hX (nI (s_k σ))) (vx_cwSW 2 hts gL_isTold_L_served rfl rfl rfl (by decide +kernel) ⟨Nat.le_of_ble_eq_true rfl, Nat.le_of_ble_eq_true rfl⟩) (ePreS hE (kH.S hk) (vP_app2 hP)) rfl rfl hl.1 rfl (lv_room (Nat.le_of_ble_eq_true rfl)) dL_isTold_713 ⟨(by omega : 428 + 1 + 1 + 1 ≤ 500), (by omega : 2568 + 6 + 6 + 6 ≤ 3000)⟩) (fun r h => hv_r (ri_x (by omega)) h) (fun H1 hk_713 => ?_)
          have hP := hk_713.P hP
          have hk := hk.tr hk_713
          refine lv_bipush (v := (-71)) hx hb dL_isTold_716 (by decide +kernel) ?_
          refine lv_icmp_ne (tgt := 962) hx hb dL_isTold_718 (by decide) (fun c_718 => absurd rfl c_718) (fun c_718 => ?_)
          refine lv_aload_n hx hb dL_isTold_721 rfl (lv_at hl 0 rfl) ?_
          refine lv_aload hx hb dL_isTold_722 (lv_at hl 10 rfl) ?_
          refine lv_iconst (v := nI 3) hx hb dL_isTold_724 (by decide +kernel) ?_
          refine nv_ialdE (q0 := 7) (t0 := 0) (v := s_k σ) (l_g σ) (rfl) hx hb hK hP rfl rfl (by decide) (by decide) dL_isTold_725 ?_
          refine nx_callKv (v := ((-71))) (vx_runSW (As := [.ref x0, .int (nI (s_k σ))]) (rest := []) ⟨hx, hb, hml, hown, hts⟩ (c_L_isSound l dD cI cR cS lo hfl x0 b ra sb hd ol σ hI hX (nI (s_k σ))) (vx_cwSW 2 hts gL_isTold_L_isSound rfl rfl rfl (by decide +kernel) ⟨Nat.le_of_ble_eq_true rfl, Nat.le_of_ble_eq_true rfl⟩) (ePreS hE (kH.S hk) (vP_app2 hP)) rfl rfl hl.1 rfl (lv_room (Nat.le_of_ble_eq_true rfl)) dL_isTold_726 ⟨(by omega : 428 + 1 + 1 + 1 + 1 ≤ 500), (by omega : 2568 + 6 + 6 + 6 + 6 ≤ 3000)⟩) (fun r h => hv_r (ri_x (by omega)) h) (fun H1 hk_726 => ?_)
          have hP := hk_726.P hP
          have hk := hk.tr hk_726
          refine lv_bipush (v := (-71)) hx hb dL_isTold_729 (by decide +kernel) ?_
          refine lv_icmp_ne (tgt := 962) hx hb dL_isTold_731 (by decide) (fun c_731 => absurd rfl c_731) (fun c_731 => ?_)
          refine lv_aload_n hx hb dL_isTold_734 rfl (lv_at hl 0 rfl) ?_
          refine lv_iconst (v := (-1)) hx hb dL_isTold_735 (by decide +kernel) ?_
          refine nx_callKv (v := ((-71))) (vx_runSW (As := [.ref x0, .int ((-1))]) (rest := []) ⟨hx, hb, hml, hown, hts⟩ (c_L_isSound l dD cI cR cS lo hfl x0 b ra sb hd ol σ hI hX ((-1))) (vx_cwSW 2 hts gL_isTold_L_isSound rfl rfl rfl (by decide +kernel) ⟨Nat.le_of_ble_eq_true rfl, Nat.le_of_ble_eq_true rfl⟩) (ePreS hE (kH.S hk) (vP_app2 hP)) rfl rfl hl.1 rfl (lv_room (Nat.le_of_ble_eq_true rfl)) dL_isTold_736 ⟨(by omega : 428 + 1 + 1 + 1 + 1 + 1 ≤ 500), (by omega : 2568 + 6 + 6 + 6 + 6 + 6 ≤ 3000)⟩) (fun r h => hv_r (ri_m1) h) (fun H1 hk_736 => ?_)
          have hP := hk_736.P hP
          have hk := hk.tr hk_736
          refine lv_bipush (v := (-71)) hx hb dL_isTold_739 (by decide +kernel) ?_
          refine lv_icmp_ne (tgt := 962) hx hb dL_isTold_741 (by decide) (fun c_741 => absurd rfl c_741) (fun c_741 => ?_)
          refine lv_aload_n hx hb dL_isTold_744 rfl (lv_at hl 0 rfl) ?_
          refine lv_bipush (v := nI 6) hx hb dL_isTold_745 (by decide +kernel) ?_
          refine lv_iconst (v := nI 0) hx hb dL_isTold_747 (by decide +kernel) ?_
          refine lv_iconst (v := nI 0) hx hb dL_isTold_748 (by decide +kernel) ?_
          refine lv_iconst (v := nI 0) hx hb dL_isTold_749 (by decide +kernel) ?_
          refine nx_callKv (v := ((-72))) (vx_runSW (As := [.ref x0, .int (nI 6), .int (nI 0), .int (nI 0), .int (nI 0)]) (rest := []) ⟨hx, hb, hml, hown, hts⟩ (c_L_join l dD cI cR cS lo hfl x0 b ra sb hd ol σ hI hX (nI 6) (nI 0) (nI 0) (nI 0)) (vx_cwSW 5 hts gL_isTold_L_join rfl rfl rfl (by decide +kernel) ⟨Nat.le_of_ble_eq_true rfl, Nat.le_of_ble_eq_true rfl⟩) (ePreS hE (kH.S hk) (vP_app2 hP)) rfl rfl hl.1 rfl (lv_room (Nat.le_of_ble_eq_true rfl)) dL_isTold_750 ⟨(by omega : 428 + 1 + 1 + 1 + 1 + 1 + 4 ≤ 500), (by omega : 2568 + 6 + 6 + 6 + 6 + 6 + 24 ≤ 3000)⟩) (fun r h => hv_r (fun z => absurd z.1.1 (rg_x (by omega) (by omega) (by decide) (by omega))) h) (fun H1 hk_750 => ?_)
          have hP := hk_750.P hP
          have hk := hk.tr hk_750
          refine lv_bipush (v := (-72)) hx hb dL_isTold_753 (by decide +kernel) ?_
          refine lv_icmp_ne (tgt := 962) hx hb dL_isTold_755 (by decide) (fun c_755 => absurd rfl c_755) (fun c_755 => ?_)
          refine lv_aload_n hx hb dL_isTold_758 rfl (lv_at hl 0 rfl) ?_
          refine lv_iconst (v := nI 0) hx hb dL_isTold_759 (by decide +kernel) ?_
          refine lv_bipush (v := nI 10) hx hb dL_isTold_760 (by decide +kernel) ?_
          refine lv_iconst (v := nI 0) hx hb dL_isTold_762 (by decide +kernel) ?_
          refine lv_iconst (v := nI 0) hx hb dL_isTold_763 (by decide +kernel) ?_
          refine nx_callKv (v := ((-72))) (vx_runSW (As := [.ref x0, .int (nI 0), .int (nI 10), .int (nI 0), .int (nI 0)]) (rest := []) ⟨hx, hb, hml, hown, hts⟩ (c_L_join l dD cI cR cS lo hfl x0 b ra sb hd ol σ hI hX (nI 0) (nI 10) (nI 0) (nI 0)) (vx_cwSW 5 hts gL_isTold_L_join rfl rfl rfl (by decide +kernel) ⟨Nat.le_of_ble_eq_true rfl, Nat.le_of_ble_eq_true rfl⟩) (ePreS hE (kH.S hk) (vP_app2 hP)) rfl rfl hl.1 rfl (lv_room (Nat.le_of_ble_eq_true rfl)) dL_isTold_764 ⟨(by omega : 428 + 1 + 1 + 1 + 1 + 1 + 4 + 4 ≤ 500), (by omega : 2568 + 6 + 6 + 6 + 6 + 6 + 24 + 24 ≤ 3000)⟩) (fun r h => hv_r (fun z => absurd z.1.2 (rg_x (by omega) (by omega) (by decide) (by omega))) h) (fun H1 hk_764 => ?_)
          have hP := hk_764.P hP
          have hk := hk.tr hk_764
          refine lv_bipush (v := (-72)) hx hb dL_isTold_767 (by decide +kernel) ?_
          refine lv_icmp_ne (tgt := 962) hx hb dL_isTold_769 (by decide) (fun c_769 => absurd rfl c_769) (fun c_769 => ?_)
          refine lv_aload_n hx hb dL_isTold_772 rfl (lv_at hl 0 rfl) ?_
          refine lv_iconst (v := nI 0) hx hb dL_isTold_773 (by decide +kernel) ?_
          refine lv_iconst (v := nI 0) hx hb dL_isTold_774 (by decide +kernel) ?_
          refine lv_sipush (v := nI 10001) hx hb dL_isTold_775 (by decide +kernel) ?_
          refine lv_iconst (v := nI 0) hx hb dL_isTold_778 (by decide +kernel) ?_
          refine nx_callKv (v := ((-72))) (vx_runSW (As := [.ref x0, .int (nI 0), .int (nI 0), .int (nI 10001), .int (nI 0)]) (rest := []) ⟨hx, hb, hml, hown, hts⟩ (c_L_join l dD cI cR cS lo hfl x0 b ra sb hd ol σ hI hX (nI 0) (nI 0) (nI 10001) (nI 0)) (vx_cwSW 5 hts gL_isTold_L_join rfl rfl rfl (by decide +kernel) ⟨Nat.le_of_ble_eq_true rfl, Nat.le_of_ble_eq_true rfl⟩) (ePreS hE (kH.S hk) (vP_app2 hP)) rfl rfl hl.1 rfl (lv_room (Nat.le_of_ble_eq_true rfl)) dL_isTold_779 ⟨(by omega : 428 + 1 + 1 + 1 + 1 + 1 + 4 + 4 + 4 ≤ 500), (by omega : 2568 + 6 + 6 + 6 + 6 + 6 + 24 + 24 + 24 ≤ 3000)⟩) (fun r h => hv_r (fun z => absurd z.2.1 (rg_x (by omega) (by omega) (by decide) (by omega))) h) (fun H1 hk_779 => ?_)
          have hP := hk_779.P hP
          have hk := hk.tr hk_779
          refine lv_bipush (v := (-72)) hx hb dL_isTold_782 (by decide +kernel) ?_
          refine lv_icmp_ne (tgt := 962) hx hb dL_isTold_784 (by decide) (fun c_784 => absurd rfl c_784) (fun c_784 => ?_)
          refine lv_aload_n hx hb dL_isTold_787 rfl (lv_at hl 0 rfl) ?_
          refine lv_iconst (v := nI 0) hx hb dL_isTold_788 (by decide +kernel) ?_
          refine lv_iconst (v := nI 0) hx hb dL_isTold_789 (by decide +kernel) ?_
          refine lv_iconst (v := nI 0) hx hb dL_isTold_790 (by decide +kernel) ?_
          refine lv_aload hx hb dL_isTold_791 (lv_at hl 10 rfl) ?_
          refine lv_iconst (v := nI 0) hx hb dL_isTold_793 (by decide +kernel) ?_
          refine nv_ialdE (q0 := 7) (t0 := 0) (v := s_now σ) (l_g σ) (rfl) hx hb hK hP rfl rfl (by decide) (by decide) dL_isTold_794 ?_
          refine lv_iconst (v := nI 1) hx hb dL_isTold_795 (by decide +kernel) ?_
          refine nv_iadd hx hb dL_isTold_796 ?_
          refine nx_callKv (v := ((-72))) (vx_runSW (As := [.ref x0, .int (nI 0), .int (nI 0), .int (nI 0), .int (nI ((s_now σ) + 1))]) (rest := []) ⟨hx, hb, hml, hown, hts⟩ (c_L_join l dD cI cR cS lo hfl x0 b ra sb hd ol σ hI hX (nI 0) (nI 0) (nI 0) (nI ((s_now σ) + 1))) (vx_cwSW 5 hts gL_isTold_L_join rfl rfl rfl (by decide +kernel) ⟨Nat.le_of_ble_eq_true rfl, Nat.le_of_ble_eq_true rfl⟩) (ePreS hE (kH.S hk) (vP_app2 hP)) rfl rfl hl.1 rfl (lv_room (Nat.le_of_ble_eq_true rfl)) dL_isTold_797 ⟨(by omega : 428 + 1 + 1 + 1 + 1 + 1 + 4 + 4 + 4 + 4 ≤ 500), (by omega : 2568 + 6 + 6 + 6 + 6 + 6 + 24 + 24 + 24 + 24 ≤ 3000)⟩) (fun r h => hv_r (fun z => absurd z.2.2 (rg_x (by omega) (by omega) (by decide) (by omega))) h) (fun H1 hk_797 => ?_)
          have hP := hk_797.P hP
          have hk := hk.tr hk_797
          refine lv_bipush (v := (-72)) hx hb dL_isTold_800 (by decide +kernel) ?_
          refine lv_icmp_ne (tgt := 962) hx hb dL_isTold_802 (by decide) (fun c_802 => absurd rfl c_802) (fun c_802 => ?_)
          refine lv_aload_n hx hb dL_isTold_805 rfl (lv_at hl 0 rfl) ?_
          refine lv_iconst (v := nI 0) hx hb dL_isTold_806 (by decide +kernel) ?_
          refine lv_iconst (v := nI 0) hx hb dL_isTold_807 (by decide +kernel) ?_
          refine lv_iconst (v := (-1)) hx hb dL_isTold_808 (by decide +kernel) ?_
          refine lv_iconst (v := nI 0) hx hb dL_isTold_809 (by decide +kernel) ?_
          refine nx_callKv (v := ((-72))) (vx_runSW (As := [.ref x0, .int (nI 0), .int (nI 0), .int ((-1)), .int (nI 0)]) (rest := []) ⟨hx, hb, hml, hown, hts⟩ (c_L_join l dD cI cR cS lo hfl x0 b ra sb hd ol σ hI hX (nI 0) (nI 0) ((-1)) (nI 0)) (vx_cwSW 5 hts gL_isTold_L_join rfl rfl rfl (by decide +kernel) ⟨Nat.le_of_ble_eq_true rfl, Nat.le_of_ble_eq_true rfl⟩) (ePreS hE (kH.S hk) (vP_app2 hP)) rfl rfl hl.1 rfl (lv_room (Nat.le_of_ble_eq_true rfl)) dL_isTold_810 ⟨(by omega : 428 + 1 + 1 + 1 + 1 + 1 + 4 + 4 + 4 + 4 + 4 ≤ 500), (by omega : 2568 + 6 + 6 + 6 + 6 + 6 + 24 + 24 + 24 + 24 + 24 ≤ 3000)⟩) (fun r h => hv_r (fun z => absurd z.2.1 (rg_m1 (by decide))) h) (fun H1 hk_810 => ?_)
          have hP := hk_810.P hP
          have hk := hk.tr hk_810
          refine lv_bipush (v := (-72)) hx hb dL_isTold_813 (by decide +kernel) ?_
          refine lv_icmp_ne (tgt := 962) hx hb dL_isTold_815 (by decide) (fun c_815 => absurd rfl c_815) (fun c_815 => ?_)
          refine lv_aload_n hx hb dL_isTold_818 rfl (lv_at hl 0 rfl) ?_
          refine lv_iconst (v := nI 0) hx hb dL_isTold_819 (by decide +kernel) ?_
          refine lv_iconst (v := nI 0) hx hb dL_isTold_820 (by decide +kernel) ?_
          refine lv_iconst (v := nI 5) hx hb dL_isTold_821 (by decide +kernel) ?_
          refine lv_iconst (v := nI 4) hx hb dL_isTold_822 (by decide +kernel) ?_
          refine nx_callKv (v := ((-72))) (vx_runSW (As := [.ref x0, .int (nI 0), .int (nI 0), .int (nI 5), .int (nI 4)]) (rest := []) ⟨hx, hb, hml, hown, hts⟩ (c_L_window l dD cI cR cS lo hfl x0 b ra sb hd ol σ hI hX (nI 0) (nI 0) (nI 5) (nI 4)) (vx_cwSW 5 hts gL_isTold_L_window rfl rfl rfl (by decide +kernel) ⟨Nat.le_of_ble_eq_true rfl, Nat.le_of_ble_eq_true rfl⟩) (ePreS hE (kH.S hk) (vP_app2 hP)) rfl rfl hl.1 rfl (lv_room (Nat.le_of_ble_eq_true rfl)) dL_isTold_823 ⟨(by omega : 428 + 1 + 1 + 1 + 1 + 1 + 4 + 4 + 4 + 4 + 4 + 4 ≤ 500), (by omega : 2568 + 6 + 6 + 6 + 6 + 6 + 24 + 24 + 24 + 24 + 24 + 24 ≤ 3000)⟩) (fun r h => hv_r (fun z => absurd (by have h := z.2.2; rw [cl_nI (by decide)] at h; exact h) (rg_x (n := 4) (lo := 5) (hi := 10000) (by omega) (by omega) (by decide) (by decide))) h) (fun H1 hk_823 => ?_)
          have hP := hk_823.P hP
          have hk := hk.tr hk_823
          refine lv_bipush (v := (-72)) hx hb dL_isTold_826 (by decide +kernel) ?_
          refine lv_icmp_ne (tgt := 962) hx hb dL_isTold_828 (by decide) (fun c_828 => absurd rfl c_828) (fun c_828 => ?_)
          refine lv_aload_n hx hb dL_isTold_831 rfl (lv_at hl 0 rfl) ?_
          refine lv_iconst (v := nI 0) hx hb dL_isTold_832 (by decide +kernel) ?_
          refine lv_iconst (v := nI 0) hx hb dL_isTold_833 (by decide +kernel) ?_
          refine lv_iconst (v := nI 0) hx hb dL_isTold_834 (by decide +kernel) ?_
          refine lv_sipush (v := nI 10001) hx hb dL_isTold_835 (by decide +kernel) ?_
          refine nx_callKv (v := ((-72))) (vx_runSW (As := [.ref x0, .int (nI 0), .int (nI 0), .int (nI 0), .int (nI 10001)]) (rest := []) ⟨hx, hb, hml, hown, hts⟩ (c_L_window l dD cI cR cS lo hfl x0 b ra sb hd ol σ hI hX (nI 0) (nI 0) (nI 0) (nI 10001)) (vx_cwSW 5 hts gL_isTold_L_window rfl rfl rfl (by decide +kernel) ⟨Nat.le_of_ble_eq_true rfl, Nat.le_of_ble_eq_true rfl⟩) (ePreS hE (kH.S hk) (vP_app2 hP)) rfl rfl hl.1 rfl (lv_room (Nat.le_of_ble_eq_true rfl)) dL_isTold_838 ⟨(by omega : 428 + 1 + 1 + 1 + 1 + 1 + 4 + 4 + 4 + 4 + 4 + 4 + 4 ≤ 500), (by omega : 2568 + 6 + 6 + 6 + 6 + 6 + 24 + 24 + 24 + 24 + 24 + 24 + 24 ≤ 3000)⟩) (fun r h => hv_r (fun z => absurd (by have h := z.2.2; rw [cl_nI (by decide)] at h; exact h) (rg_x (n := 10001) (lo := 0) (hi := 10000) (by omega) (by omega) (by decide) (by decide))) h) (fun H1 hk_838 => ?_)
          have hP := hk_838.P hP
          have hk := hk.tr hk_838
          refine lv_bipush (v := (-72)) hx hb dL_isTold_841 (by decide +kernel) ?_
          refine lv_icmp_ne (tgt := 962) hx hb dL_isTold_843 (by decide) (fun c_843 => absurd rfl c_843) (fun c_843 => ?_)
          refine lv_aload_n hx hb dL_isTold_846 rfl (lv_at hl 0 rfl) ?_
          refine lv_iconst (v := nI 0) hx hb dL_isTold_847 (by decide +kernel) ?_
          refine lv_iconst (v := (-1)) hx hb dL_isTold_848 (by decide +kernel) ?_
          refine lv_iconst (v := nI 0) hx hb dL_isTold_849 (by decide +kernel) ?_
          refine lv_iconst (v := nI 0) hx hb dL_isTold_850 (by decide +kernel) ?_
          refine nx_callKv (v := ((-72))) (vx_runSW (As := [.ref x0, .int (nI 0), .int ((-1)), .int (nI 0), .int (nI 0)]) (rest := []) ⟨hx, hb, hml, hown, hts⟩ (c_L_window l dD cI cR cS lo hfl x0 b ra sb hd ol σ hI hX (nI 0) ((-1)) (nI 0) (nI 0)) (vx_cwSW 5 hts gL_isTold_L_window rfl rfl rfl (by decide +kernel) ⟨Nat.le_of_ble_eq_true rfl, Nat.le_of_ble_eq_true rfl⟩) (ePreS hE (kH.S hk) (vP_app2 hP)) rfl rfl hl.1 rfl (lv_room (Nat.le_of_ble_eq_true rfl)) dL_isTold_851 ⟨(by omega : 428 + 1 + 1 + 1 + 1 + 1 + 4 + 4 + 4 + 4 + 4 + 4 + 4 + 4 ≤ 500), (by omega : 2568 + 6 + 6 + 6 + 6 + 6 + 24 + 24 + 24 + 24 + 24 + 24 + 24 + 24 ≤ 3000)⟩) (fun r h => hv_r (fun z => absurd z.1.2 (rg_m1 (by decide))) h) (fun H1 hk_851 => ?_)
          have hP := hk_851.P hP
          have hk := hk.tr hk_851
          refine lv_bipush (v := (-72)) hx hb dL_isTold_854 (by decide +kernel) ?_
          refine lv_icmp_ne (tgt := 962) hx hb dL_isTold_856 (by decide) (fun c_856 => absurd rfl c_856) (fun c_856 => ?_)
          refine lv_aload_n hx hb dL_isTold_859 rfl (lv_at hl 0 rfl) ?_
          refine lv_iconst (v := nI 0) hx hb dL_isTold_860 (by decide +kernel) ?_
          refine lv_iconst (v := nI 0) hx hb dL_isTold_861 (by decide +kernel) ?_
          refine lv_iconst (v := nI 0) hx hb dL_isTold_862 (by decide +kernel) ?_
          refine nx_callKv (v := ((-72))) (vx_runSW (As := [.ref x0, .int (nI 0), .int (nI 0), .int (nI 0)]) (rest := []) ⟨hx, hb, hml, hown, hts⟩ (c_L_greatestTile l dD cI cR cS lo hfl x0 b ra sb hd ol σ hI hX (nI 0) (nI 0) (nI 0)) (vx_cwSW 4 hts gL_isTold_L_greatestTile rfl rfl rfl (by decide +kernel) ⟨Nat.le_of_ble_eq_true rfl, Nat.le_of_ble_eq_true rfl⟩) (ePreS hE (kH.S hk) (vP_app2 hP)) rfl rfl hl.1 rfl (lv_room (Nat.le_of_ble_eq_true rfl)) dL_isTold_863 ⟨(by omega : 428 + 1 + 1 + 1 + 1 + 1 + 4 + 4 + 4 + 4 + 4 + 4 + 4 + 4 + 3 ≤ 500), (by omega : 2568 + 6 + 6 + 6 + 6 + 6 + 24 + 24 + 24 + 24 + 24 + 24 + 24 + 24 + 18 ≤ 3000)⟩) (fun r h => hv_r (fun z => absurd z.2 (rg_x (by omega) (by omega) (by decide) (by omega))) h) (fun H1 hk_863 => ?_)
          have hP := hk_863.P hP
          have hk := hk.tr hk_863
          refine lv_bipush (v := (-72)) hx hb dL_isTold_866 (by decide +kernel) ?_
          refine lv_icmp_ne (tgt := 962) hx hb dL_isTold_868 (by decide) (fun c_868 => absurd rfl c_868) (fun c_868 => ?_)
          refine lv_aload_n hx hb dL_isTold_871 rfl (lv_at hl 0 rfl) ?_
          refine lv_iconst (v := nI 0) hx hb dL_isTold_872 (by decide +kernel) ?_
          refine lv_iconst (v := nI 0) hx hb dL_isTold_873 (by decide +kernel) ?_
          refine lv_sipush (v := nI 10001) hx hb dL_isTold_874 (by decide +kernel) ?_
          refine nx_callKv (v := ((-72))) (vx_runSW (As := [.ref x0, .int (nI 0), .int (nI 0), .int (nI 10001)]) (rest := []) ⟨hx, hb, hml, hown, hts⟩ (c_L_greatestTile l dD cI cR cS lo hfl x0 b ra sb hd ol σ hI hX (nI 0) (nI 0) (nI 10001)) (vx_cwSW 4 hts gL_isTold_L_greatestTile rfl rfl rfl (by decide +kernel) ⟨Nat.le_of_ble_eq_true rfl, Nat.le_of_ble_eq_true rfl⟩) (ePreS hE (kH.S hk) (vP_app2 hP)) rfl rfl hl.1 rfl (lv_room (Nat.le_of_ble_eq_true rfl)) dL_isTold_877 ⟨(by omega : 428 + 1 + 1 + 1 + 1 + 1 + 4 + 4 + 4 + 4 + 4 + 4 + 4 + 4 + 3 + 3 ≤ 500), (by omega : 2568 + 6 + 6 + 6 + 6 + 6 + 24 + 24 + 24 + 24 + 24 + 24 + 24 + 24 + 18 + 18 ≤ 3000)⟩) (fun r h => hv_r (fun z => absurd z.2 (rg_x (by omega) (by omega) (by decide) (by omega))) h) (fun H1 hk_877 => ?_)
          have hP := hk_877.P hP
          have hk := hk.tr hk_877
          refine lv_bipush (v := (-72)) hx hb dL_isTold_880 (by decide +kernel) ?_
          refine lv_icmp_ne (tgt := 962) hx hb dL_isTold_882 (by decide) (fun c_882 => absurd rfl c_882) (fun c_882 => ?_)
          refine lv_aload_n hx hb dL_isTold_885 rfl (lv_at hl 0 rfl) ?_
          refine lv_bipush (v := nI 6) hx hb dL_isTold_886 (by decide +kernel) ?_
          refine lv_iconst (v := nI 0) hx hb dL_isTold_888 (by decide +kernel) ?_
          refine lv_iconst (v := nI 1) hx hb dL_isTold_889 (by decide +kernel) ?_
          refine nx_callKv (v := ((-72))) (vx_runSW (As := [.ref x0, .int (nI 6), .int (nI 0), .int (nI 1)]) (rest := []) ⟨hx, hb, hml, hown, hts⟩ (c_L_tiles l dD cI cR cS lo hfl x0 b ra sb hd ol σ hI hX (nI 6) (nI 0) (nI 1)) (vx_cwSW 4 hts gL_isTold_L_tiles rfl rfl rfl (by decide +kernel) ⟨Nat.le_of_ble_eq_true rfl, Nat.le_of_ble_eq_true rfl⟩) (ePreS hE (kH.S hk) (vP_app2 hP)) rfl rfl hl.1 rfl (lv_room (Nat.le_of_ble_eq_true rfl)) dL_isTold_890 ⟨(by omega : 428 + 1 + 1 + 1 + 1 + 1 + 4 + 4 + 4 + 4 + 4 + 4 + 4 + 4 + 3 + 3 + 3 ≤ 500), (by omega : 2568 + 6 + 6 + 6 + 6 + 6 + 24 + 24 + 24 + 24 + 24 + 24 + 24 + 24 + 18 + 18 + 18 ≤ 3000)⟩) (fun r h => hv_r (fun z => absurd z.1.1 (rg_x (by omega) (by omega) (by decide) (by omega))) h) (fun H1 hk_890 => ?_)
          have hP := hk_890.P hP
          have hk := hk.tr hk_890
          refine lv_bipush (v := (-72)) hx hb dL_isTold_893 (by decide +kernel) ?_
          refine lv_icmp_ne (tgt := 962) hx hb dL_isTold_895 (by decide) (fun c_895 => absurd rfl c_895) (fun c_895 => ?_)
          refine lv_aload_n hx hb dL_isTold_898 rfl (lv_at hl 0 rfl) ?_
          refine lv_iconst (v := nI 0) hx hb dL_isTold_899 (by decide +kernel) ?_
          refine lv_iconst (v := nI 0) hx hb dL_isTold_900 (by decide +kernel) ?_
          refine lv_iconst (v := nI 0) hx hb dL_isTold_901 (by decide +kernel) ?_
          refine nx_callKv (v := ((-72))) (vx_runSW (As := [.ref x0, .int (nI 0), .int (nI 0), .int (nI 0)]) (rest := []) ⟨hx, hb, hml, hown, hts⟩ (c_L_tiles l dD cI cR cS lo hfl x0 b ra sb hd ol σ hI hX (nI 0) (nI 0) (nI 0)) (vx_cwSW 4 hts gL_isTold_L_tiles rfl rfl rfl (by decide +kernel) ⟨Nat.le_of_ble_eq_true rfl, Nat.le_of_ble_eq_true rfl⟩) (ePreS hE (kH.S hk) (vP_app2 hP)) rfl rfl hl.1 rfl (lv_room (Nat.le_of_ble_eq_true rfl)) dL_isTold_902 ⟨(by omega : 428 + 1 + 1 + 1 + 1 + 1 + 4 + 4 + 4 + 4 + 4 + 4 + 4 + 4 + 3 + 3 + 3 + 3 ≤ 500), (by omega : 2568 + 6 + 6 + 6 + 6 + 6 + 24 + 24 + 24 + 24 + 24 + 24 + 24 + 24 + 18 + 18 + 18 + 18 ≤ 3000)⟩) (fun r h => hv_r (fun z => absurd z.2 (rg_x (by omega) (by omega) (by decide) (by omega))) h) (fun H1 hk_902 => ?_)
          have hP := hk_902.P hP
          have hk := hk.tr hk_902
          refine lv_bipush (v := (-72)) hx hb dL_isTold_905 (by decide +kernel) ?_
          refine lv_icmp_ne (tgt := 962) hx hb dL_isTold_907 (by decide) (fun c_907 => absurd rfl c_907) (fun c_907 => ?_)
          refine lv_aload_n hx hb dL_isTold_910 rfl (lv_at hl 0 rfl) ?_
          refine lv_iconst (v := nI 0) hx hb dL_isTold_911 (by decide +kernel) ?_
          refine lv_iconst (v := nI 0) hx hb dL_isTold_912 (by decide +kernel) ?_
          refine lv_iconst (v := nI 0) hx hb dL_isTold_913 (by decide +kernel) ?_
          refine nx_callKv (v := ((-72))) (vx_runSW (As := [.ref x0, .int (nI 0), .int (nI 0), .int (nI 0)]) (rest := []) ⟨hx, hb, hml, hown, hts⟩ (c_L_revised l dD cI cR cS lo hfl x0 b ra sb hd ol σ hI hX (nI 0) (nI 0) (nI 0)) (vx_cwSW 4 hts gL_isTold_L_revised rfl rfl rfl (by decide +kernel) ⟨Nat.le_of_ble_eq_true rfl, Nat.le_of_ble_eq_true rfl⟩) (ePreS hE (kH.S hk) (vP_app2 hP)) rfl rfl hl.1 rfl (lv_room (Nat.le_of_ble_eq_true rfl)) dL_isTold_914 ⟨(by omega : 428 + 1 + 1 + 1 + 1 + 1 + 4 + 4 + 4 + 4 + 4 + 4 + 4 + 4 + 3 + 3 + 3 + 3 + 3 ≤ 500), (by omega : 2568 + 6 + 6 + 6 + 6 + 6 + 24 + 24 + 24 + 24 + 24 + 24 + 24 + 24 + 18 + 18 + 18 + 18 + 18 ≤ 3000)⟩) (fun r h => hv_r (fun z => absurd z.2 (rg_x (by omega) (by omega) (by decide) (by omega))) h) (fun H1 hk_914 => ?_)
          have hP := hk_914.P hP
          have hk := hk.tr hk_914
          refine lv_bipush (v := (-72)) hx hb dL_isTold_917 (by decide +kernel) ?_
          refine lv_icmp_ne (tgt := 962) hx hb dL_isTold_919 (by decide) (fun c_919 => absurd rfl c_919) (fun c_919 => ?_)
          refine lv_aload_n hx hb dL_isTold_922 rfl (lv_at hl 0 rfl) ?_
          refine lv_iconst (v := nI 0) hx hb dL_isTold_923 (by decide +kernel) ?_
          refine lv_bipush (v := nI 10) hx hb dL_isTold_924 (by decide +kernel) ?_
          refine lv_iconst (v := nI 1) hx hb dL_isTold_926 (by decide +kernel) ?_
          refine nx_callKv (v := ((-72))) (vx_runSW (As := [.ref x0, .int (nI 0), .int (nI 10), .int (nI 1)]) (rest := []) ⟨hx, hb, hml, hown, hts⟩ (c_L_revised l dD cI cR cS lo hfl x0 b ra sb hd ol σ hI hX (nI 0) (nI 10) (nI 1)) (vx_cwSW 4 hts gL_isTold_L_revised rfl rfl rfl (by decide +kernel) ⟨Nat.le_of_ble_eq_true rfl, Nat.le_of_ble_eq_true rfl⟩) (ePreS hE (kH.S hk) (vP_app2 hP)) rfl rfl hl.1 rfl (lv_room (Nat.le_of_ble_eq_true rfl)) dL_isTold_927 ⟨(by omega : 428 + 1 + 1 + 1 + 1 + 1 + 4 + 4 + 4 + 4 + 4 + 4 + 4 + 4 + 3 + 3 + 3 + 3 + 3 + 3 ≤ 500), (by omega : 2568 + 6 + 6 + 6 + 6 + 6 + 24 + 24 + 24 + 24 + 24 + 24 + 24 + 24 + 18 + 18 + 18 + 18 + 18 + 18 ≤ 3000)⟩) (fun r h => hv_r (fun z => absurd z.1.2 (rg_x (by omega) (by omega) (by decide) (by omega))) h) (fun H1 hk_927 => ?_)
          have hP := hk_927.P hP
          have hk := hk.tr hk_927
          refine lv_bipush (v := (-72)) hx hb dL_isTold_930 (by decide +kernel) ?_
          refine lv_icmp_ne (tgt := 962) hx hb dL_isTold_932 (by decide) (fun c_932 => absurd rfl c_932) (fun c_932 => ?_)
          refine lv_aload_n hx hb dL_isTold_935 rfl (lv_at hl 0 rfl) ?_
          refine lv_iconst (v := (-1)) hx hb dL_isTold_936 (by decide +kernel) ?_
          refine lv_iconst (v := nI 0) hx hb dL_isTold_937 (by decide +kernel) ?_
          refine nx_callKv (v := ((-72))) (vx_runSW (As := [.ref x0, .int ((-1)), .int (nI 0)]) (rest := []) ⟨hx, hb, hml, hown, hts⟩ (c_L_online l dD cI cR cS lo hfl x0 b ra sb hd ol σ hI hX ((-1)) (nI 0)) (vx_cwSW 3 hts gL_isTold_L_online rfl rfl rfl (by decide +kernel) ⟨Nat.le_of_ble_eq_true rfl, Nat.le_of_ble_eq_true rfl⟩) (ePreS hE (kH.S hk) (vP_app2 hP)) rfl rfl hl.1 rfl (lv_room (Nat.le_of_ble_eq_true rfl)) dL_isTold_938 ⟨(by omega : 428 + 1 + 1 + 1 + 1 + 1 + 4 + 4 + 4 + 4 + 4 + 4 + 4 + 4 + 3 + 3 + 3 + 3 + 3 + 3 + 2 ≤ 500), (by omega : 2568 + 6 + 6 + 6 + 6 + 6 + 24 + 24 + 24 + 24 + 24 + 24 + 24 + 24 + 18 + 18 + 18 + 18 + 18 + 18 + 12 ≤ 3000)⟩) (fun r h => hv_r (fun z => absurd z.1 (rg_m1 (by decide))) h) (fun H1 hk_938 => ?_)
          have hP := hk_938.P hP
          have hk := hk.tr hk_938
          refine lv_bipush (v := (-72)) hx hb dL_isTold_941 (by decide +kernel) ?_
          refine lv_icmp_ne (tgt := 962) hx hb dL_isTold_943 (by decide) (fun c_943 => absurd rfl c_943) (fun c_943 => ?_)
          refine lv_aload_n hx hb dL_isTold_946 rfl (lv_at hl 0 rfl) ?_
          refine lv_iconst (v := nI 0) hx hb dL_isTold_947 (by decide +kernel) ?_
          refine lv_bipush (v := nI 10) hx hb dL_isTold_948 (by decide +kernel) ?_
          refine nx_callKv (v := ((-72))) (vx_runSW (As := [.ref x0, .int (nI 0), .int (nI 10)]) (rest := []) ⟨hx, hb, hml, hown, hts⟩ (c_L_online l dD cI cR cS lo hfl x0 b ra sb hd ol σ hI hX (nI 0) (nI 10)) (vx_cwSW 3 hts gL_isTold_L_online rfl rfl rfl (by decide +kernel) ⟨Nat.le_of_ble_eq_true rfl, Nat.le_of_ble_eq_true rfl⟩) (ePreS hE (kH.S hk) (vP_app2 hP)) rfl rfl hl.1 rfl (lv_room (Nat.le_of_ble_eq_true rfl)) dL_isTold_950 ⟨(by omega : 428 + 1 + 1 + 1 + 1 + 1 + 4 + 4 + 4 + 4 + 4 + 4 + 4 + 4 + 3 + 3 + 3 + 3 + 3 + 3 + 2 + 2 ≤ 500), (by omega : 2568 + 6 + 6 + 6 + 6 + 6 + 24 + 24 + 24 + 24 + 24 + 24 + 24 + 24 + 18 + 18 + 18 + 18 + 18 + 18 + 12 + 12 ≤ 3000)⟩) (fun r h => hv_r (fun z => absurd z.2 (rg_x (by omega) (by omega) (by decide) (by omega))) h) (fun H1 hk_950 => ?_)
          have hP := hk_950.P hP
          have hk := hk.tr hk_950
          refine lv_bipush (v := (-72)) hx hb dL_isTold_953 (by decide +kernel) ?_
          refine lv_icmp_ne (tgt := 962) hx hb dL_isTold_955 (by decide) (fun c_955 => absurd rfl c_955) (fun c_955 => ?_)
          refine lv_iconst (v := nI 1) hx hb dL_isTold_958 (by decide +kernel) ?_
          refine lv_goto (tgt := 963) hx hb dL_isTold_959 (by decide) ?_
          refine W.widen (k := 500) (n := 3000) (by omega) (by omega) ?_
          exact W.zret (v := nI 1) hx hb hr rfl (fun u9 hu9 hW => ⟨nI 1, rfl, rfl, hk.F hu9⟩) (fun z hz => absurd hz List.not_mem_nil) dL_isTold_963
        have lp_292 : ∀ (d : Nat) (n : Nat), n ≤ 4 → 4 < n + d → ∀ (H : Heap), kH s.heap H → va_P dD vwCl (lW cI la σ ++ xW cI cR cS x0 b ra sb hd ol σ) H → ∀ (ls : Array Slot), lv_has ls 21 [(0, .ref x0), (1, .int y), (2, .int z), (3, .ref (la 0)), (4, .ref (la 1)), (5, .ref (la 2)), (6, .ref (la 3)), (7, .ref (la 4)), (8, .ref (la 5)), (9, .ref (la 6)), (10, .ref (la 7)), (11, .int (nI (q_uns σ (s_k σ)))), (12, .int (nI (q_skew σ 60))), (13, .int (nI n))] → W p l e_ (headSpec wsL_isTold ({ frames := 11, cells := 500, slots := 3000, locals := 214 })).room s m (([.ref x0, .int y, .int z, .ref (la 0), .ref (la 1), .ref (la 2), .ref (la 3), .ref (la 4), .ref (la 5), .ref (la 6), .ref (la 7)] : List Value).toArray) below meth c H [] (360 + 17 * n) (2160 + 102 * n) (MQ below (lK (fun r => r = nI 1)) (([.ref x0, .int y, .int z, .ref (la 0), .ref (la 1), .ref (la 2), .ref (la 3), .ref (la 4), .ref (la 5), .ref (la 6), .ref (la 7)] : List Value).toArray) s 500 3000 (fun _ => False)) (F0 m 292 ls []) := by
          intro d
          induction d with
          | zero =>
            intro n hr1 hr2 H hk hP ls hl
            exact absurd hr2 (by omega)
          | succ d ih =>
            intro n hr1 hr2 H hk hP ls hl
            refine lv_iload hx hb dL_isTold_292 (lv_at hl 13 rfl) ?_
            refine lv_iconst (v := nI 4) hx hb dL_isTold_294 (by decide +kernel) ?_
            refine nv_ge (tgt := 618) hx hb dL_isTold_295 (by decide) (by omega) (by omega) (fun c_295 => ?_) (fun c_295 => ?_)
            · refine W.widen (k := 428) (n := 2568) (by omega) (by omega) ?_
              exact hj_618 _ hk hP ls (lv_sub hl [0, 1, 2, 3, 4, 5, 6, 7, 8, 9, 10, 11, 12] rfl)
            · refine lv_iload_n hx hb dL_isTold_298 rfl (lv_at hl 1 rfl) ?_
              refine lv_iload hx hb dL_isTold_299 (lv_at hl 13 rfl) ?_
              refine lv_ishr hx hb dL_isTold_301 ?_
              refine lv_iconst (v := nI 2) hx hb dL_isTold_302 (by decide +kernel) ?_
              refine vp_callSi (va_Run.run (va_runS (As := [.int (y >>> ((nI n) &&& 31)), .int (nI 2)]) (rest := []) ⟨hx, hb, hml, hown, hts⟩ (c_L_low l dD cI cR cS lo (y >>> ((nI n) &&& 31)) (2) (by omega) (by omega)) (va_cwS 2 hts gL_isTold_L_low rfl rfl rfl (by decide +kernel) ⟨Nat.le_of_ble_eq_true rfl, Nat.le_of_ble_eq_true rfl⟩) (ePreS hE (kH.S hk) trivial) rfl rfl hl.1 rfl (lv_room (Nat.le_of_ble_eq_true rfl)) dL_isTold_303 ⟨(by omega : 360 + 17 * n + 0 ≤ 500), (by omega : 2160 + 102 * n + 0 ≤ 3000)⟩)) (fun r_303 hr_303 => ?_)
              obtain ⟨f, hf, rfl⟩ := hr_303
              refine lv_istore (lv' := [(14, .int (nI f)), (0, .ref x0), (1, .int y), (2, .int z), (3, .ref (la 0)), (4, .ref (la 1)), (5, .ref (la 2)), (6, .ref (la 3)), (7, .ref (la 4)), (8, .ref (la 5)), (9, .ref (la 6)), (10, .ref (la 7)), (11, .int (nI (q_uns σ (s_k σ)))), (12, .int (nI (q_skew σ 60))), (13, .int (nI n))]) hx hb dL_isTold_306 hl (by decide) rfl (fun ls hl => ?_)
              refine lv_iload_n hx hb dL_isTold_308 rfl (lv_at hl 2 rfl) ?_
              refine lv_iconst (v := nI 2) hx hb dL_isTold_309 (by decide +kernel) ?_
              refine lv_iload hx hb dL_isTold_310 (lv_at hl 14 rfl) ?_
              refine nv_iadd hx hb dL_isTold_312 ?_
              refine lv_ishr hx hb dL_isTold_313 ?_
              refine lv_iconst (v := nI 2) hx hb dL_isTold_314 (by decide +kernel) ?_
              refine vp_callSi (va_Run.run (va_runS (As := [.int (y >>> ((nI (2 + n)) &&& 31)), .int (nI 2)]) (rest := []) ⟨hx, hb, hml, hown, hts⟩ (c_L_low l dD cI cR cS lo (y >>> ((nI (2 + n)) &&& 31)) (2) (by omega) (by omega)) (va_cwS 2 hts gL_isTold_L_low rfl rfl rfl (by decide +kernel) ⟨Nat.le_of_ble_eq_true rfl, Nat.le_of_ble_eq_true rfl⟩) (ePreS hE (kH.S hk) trivial) rfl rfl hl.1 rfl (lv_room (Nat.le_of_ble_eq_true rfl)) dL_isTold_315 ⟨(by omega : 360 + 17 * n + 0 ≤ 500), (by omega : 2160 + 102 * n + 0 ≤ 3000)⟩)) (fun r_315 hr_315 => ?_)
              obtain ⟨e, he, rfl⟩ := hr_315
              refine lv_istore (lv' := [(15, .int (nI e)), (14, .int (nI f)), (0, .ref x0), (1, .int y), (2, .int z), (3, .ref (la 0)), (4, .ref (la 1)), (5, .ref (la 2)), (6, .ref (la 3)), (7, .ref (la 4)), (8, .ref (la 5)), (9, .ref (la 6)), (10, .ref (la 7)), (11, .int (nI (q_uns σ (s_k σ)))), (12, .int (nI (q_skew σ 60))), (13, .int (nI n))]) hx hb dL_isTold_318 hl (by decide) rfl (fun ls hl => ?_)
              have hz_n := hL.1
              have hj_350 : ∀ (t : Nat) (_ : t ≤ 10000) (ls : Array Slot), lv_has ls 21 [(15, .int (nI e)), (14, .int (nI f)), (0, .ref x0), (1, .int y), (2, .int z), (3, .ref (la 0)), (4, .ref (la 1)), (5, .ref (la 2)), (6, .ref (la 3)), (7, .ref (la 4)), (8, .ref (la 5)), (9, .ref (la 6)), (10, .ref (la 7)), (11, .int (nI (q_uns σ (s_k σ)))), (12, .int (nI (q_skew σ 60))), (13, .int (nI n)), (16, .int (nI t))] → W p l e_ (headSpec wsL_isTold ({ frames := 11, cells := 500, slots := 3000, locals := 214 })).room s m (([.ref x0, .int y, .int z, .ref (la 0), .ref (la 1), .ref (la 2), .ref (la 3), .ref (la 4), .ref (la 5), .ref (la 6), .ref (la 7)] : List Value).toArray) below meth c H [] (360 + 17 * n) (2160 + 102 * n) (MQ below (lK (fun r => r = nI 1)) (([.ref x0, .int y, .int z, .ref (la 0), .ref (la 1), .ref (la 2), .ref (la 3), .ref (la 4), .ref (la 5), .ref (la 6), .ref (la 7)] : List Value).toArray) s 500 3000 (fun _ => False)) (F0 m 350 ls []) := by
                intro t ht ls hl
                refine lv_iload_n hx hb dL_isTold_350 rfl (lv_at hl 4 rfl) ?_
                refine lv_iconst (v := nI 5) hx hb dL_isTold_351 (by decide +kernel) ?_
                refine lv_iload hx hb dL_isTold_352 (lv_at hl 15 rfl) ?_
                refine nv_iadd hx hb dL_isTold_354 ?_
                refine lv_ishr hx hb dL_isTold_355 ?_
                refine lv_aload hx hb dL_isTold_356 (lv_at hl 12 rfl) ?_
                refine lv_iconst (v := nI 0) hx hb dL_isTold_358 (by decide +kernel) ?_
                refine nv_ialdE (q0 := 7) (t0 := 0) (v := s_now σ) (l_g σ) (rfl) hx hb hK hP rfl rfl (by decide) (by decide) dL_isTold_359 ?_
                refine lv_iconst (v := nI 1) hx hb dL_isTold_360 (by decide +kernel) ?_
                refine nv_iadd hx hb dL_isTold_361 ?_
                refine vp_callSi (va_Run.run (va_runS (As := [.int (z >>> ((nI (5 + n)) &&& 31)), .int (nI ((s_now σ) + 1))]) (rest := []) ⟨hx, hb, hml, hown, hts⟩ (c_L_low l dD cI cR cS lo (z >>> ((nI (5 + n)) &&& 31)) ((s_now σ) + 1) (by omega) (by omega)) (va_cwS 2 hts gL_isTold_L_low rfl rfl rfl (by decide +kernel) ⟨Nat.le_of_ble_eq_true rfl, Nat.le_of_ble_eq_true rfl⟩) (ePreS hE (kH.S hk) trivial) rfl rfl hl.1 rfl (lv_room (Nat.le_of_ble_eq_true rfl)) dL_isTold_362 ⟨(by omega : 360 + 17 * n + 0 ≤ 500), (by omega : 2160 + 102 * n + 0 ≤ 3000)⟩)) (fun r_362 hr_362 => ?_)
                obtain ⟨kn, hkn, rfl⟩ := hr_362
                refine lv_istore (lv' := [(17, .int (nI kn)), (15, .int (nI e)), (14, .int (nI f)), (0, .ref x0), (1, .int y), (2, .int z), (3, .ref (la 0)), (4, .ref (la 1)), (5, .ref (la 2)), (6, .ref (la 3)), (7, .ref (la 4)), (8, .ref (la 5)), (9, .ref (la 6)), (10, .ref (la 7)), (11, .int (nI (q_uns σ (s_k σ)))), (12, .int (nI (q_skew σ 60))), (13, .int (nI n)), (16, .int (nI t))]) hx hb dL_isTold_365 hl (by decide) rfl (fun ls hl => ?_)
                have hj_391 : ∀ (T : Nat) (_ : 1 ≤ T) (_ : T ≤ 10000) (ls : Array Slot), lv_has ls 21 [(17, .int (nI kn)), (15, .int (nI e)), (14, .int (nI f)), (0, .ref x0), (1, .int y), (2, .int z), (3, .ref (la 0)), (4, .ref (la 1)), (5, .ref (la 2)), (6, .ref (la 3)), (7, .ref (la 4)), (8, .ref (la 5)), (9, .ref (la 6)), (10, .ref (la 7)), (11, .int (nI (q_uns σ (s_k σ)))), (12, .int (nI (q_skew σ 60))), (13, .int (nI n)), (16, .int (nI t)), (18, .int (nI T))] → W p l e_ (headSpec wsL_isTold ({ frames := 11, cells := 500, slots := 3000, locals := 214 })).room s m (([.ref x0, .int y, .int z, .ref (la 0), .ref (la 1), .ref (la 2), .ref (la 3), .ref (la 4), .ref (la 5), .ref (la 6), .ref (la 7)] : List Value).toArray) below meth c H [] (360 + 17 * n) (2160 + 102 * n) (MQ below (lK (fun r => r = nI 1)) (([.ref x0, .int y, .int z, .ref (la 0), .ref (la 1), .ref (la 2), .ref (la 3), .ref (la 4), .ref (la 5), .ref (la 6), .ref (la 7)] : List Value).toArray) s 500 3000 (fun _ => False)) (F0 m 391 ls []) := by
                  intro T hT1 hT2 ls hl
                  refine lv_iconst (v := nI 0) hx hb dL_isTold_391 (by decide +kernel) ?_
                  refine lv_istore (lv' := [(19, .int (nI 0)), (17, .int (nI kn)), (15, .int (nI e)), (14, .int (nI f)), (0, .ref x0), (1, .int y), (2, .int z), (3, .ref (la 0)), (4, .ref (la 1)), (5, .ref (la 2)), (6, .ref (la 3)), (7, .ref (la 4)), (8, .ref (la 5)), (9, .ref (la 6)), (10, .ref (la 7)), (11, .int (nI (q_uns σ (s_k σ)))), (12, .int (nI (q_skew σ 60))), (13, .int (nI n)), (16, .int (nI t)), (18, .int (nI T))]) hx hb dL_isTold_392 hl (by decide) rfl (fun ls hl => ?_)
                  refine lv_iconst (v := nI 0) hx hb dL_isTold_394 (by decide +kernel) ?_
                  refine lv_istore (lv' := [(20, .int (nI 0)), (19, .int (nI 0)), (17, .int (nI kn)), (15, .int (nI e)), (14, .int (nI f)), (0, .ref x0), (1, .int y), (2, .int z), (3, .ref (la 0)), (4, .ref (la 1)), (5, .ref (la 2)), (6, .ref (la 3)), (7, .ref (la 4)), (8, .ref (la 5)), (9, .ref (la 6)), (10, .ref (la 7)), (11, .int (nI (q_uns σ (s_k σ)))), (12, .int (nI (q_skew σ 60))), (13, .int (nI n)), (16, .int (nI t)), (18, .int (nI T))]) hx hb dL_isTold_395 hl (by decide) rfl (fun ls hl => ?_)
                  have hj_483 : ∀ (ls : Array Slot), lv_has ls 21 [(0, .ref x0), (1, .int y), (2, .int z), (3, .ref (la 0)), (4, .ref (la 1)), (5, .ref (la 2)), (6, .ref (la 3)), (7, .ref (la 4)), (8, .ref (la 5)), (9, .ref (la 6)), (10, .ref (la 7)), (11, .int (nI (q_uns σ (s_k σ)))), (12, .int (nI (q_skew σ 60))), (13, .int (nI n)), (14, .int (nI f)), (15, .int (nI e)), (16, .int (nI t)), (17, .int (nI kn)), (18, .int (nI T)), (19, .int (nI (q_rev σ (10 * f + e) T (s_now σ / T + 1))))] → W p l e_ (headSpec wsL_isTold ({ frames := 11, cells := 500, slots := 3000, locals := 214 })).room s m (([.ref x0, .int y, .int z, .ref (la 0), .ref (la 1), .ref (la 2), .ref (la 3), .ref (la 4), .ref (la 5), .ref (la 6), .ref (la 7)] : List Value).toArray) below meth c H [] (360 + 17 * n) (2160 + 102 * n) (MQ below (lK (fun r => r = nI 1)) (([.ref x0, .int y, .int z, .ref (la 0), .ref (la 1), .ref (la 2), .ref (la 3), .ref (la 4), .ref (la 5), .ref (la 6), .ref (la 7)] : List Value).toArray) s 500 3000 (fun _ => False)) (F0 m 483 ls []) := by
                    intro ls hl
                    refine lv_aload_n hx hb dL_isTold_483 rfl (lv_at hl 0 rfl) ?_
                    refine lv_iload hx hb dL_isTold_484 (lv_at hl 14 rfl) ?_
                    refine lv_iload hx hb dL_isTold_486 (lv_at hl 15 rfl) ?_
                    refine lv_iload hx hb dL_isTold_488 (lv_at hl 16 rfl) ?_
                    refine lv_iload hx hb dL_isTold_490 (lv_at hl 17 rfl) ?_
                    refine nx_callKv (v := eN (q_join σ (10 * f + e) t kn)) (vx_runSW (As := [.ref x0, .int (nI f), .int (nI e), .int (nI t), .int (nI kn)]) (rest := []) ⟨hx, hb, hml, hown, hts⟩ (c_L_join l dD cI cR cS lo hfl x0 b ra sb hd ol σ hI hX (nI f) (nI e) (nI t) (nI kn)) (vx_cwSW 5 hts gL_isTold_L_join rfl rfl rfl (by decide +kernel) ⟨Nat.le_of_ble_eq_true rfl, Nat.le_of_ble_eq_true rfl⟩) (ePreS hE (kH.S hk) (vP_app2 hP)) rfl rfl hl.1 rfl (lv_room (Nat.le_of_ble_eq_true rfl)) dL_isTold_492 ⟨(by omega : 360 + 17 * n + 4 ≤ 500), (by omega : 2160 + 102 * n + 24 ≤ 3000)⟩) (fun r h => (hv_l ⟨okP_n (by omega) (by omega), rg_n (Nat.zero_le _) (by omega) (by decide), rg_n (Nat.zero_le _) (by omega) (by omega)⟩ h).trans (by rw [plN_n (by omega) (by omega), cl_nI (show t < 2 ^ 31 by omega), cl_nI (show kn < 2 ^ 31 by omega)])) (fun H1 hk_492 => ?_)
                    have hP := hk_492.P hP
                    have hk := hk.tr hk_492
                    refine lv_aload_n hx hb dL_isTold_495 rfl (lv_at hl 3 rfl) ?_
                    refine lv_aload hx hb dL_isTold_496 (lv_at hl 4 rfl) ?_
                    refine lv_aload hx hb dL_isTold_498 (lv_at hl 5 rfl) ?_
                    refine lv_aload hx hb dL_isTold_500 (lv_at hl 7 rfl) ?_
                    refine lv_iload hx hb dL_isTold_502 (lv_at hl 14 rfl) ?_
                    refine lv_bipush (v := nI 8) hx hb dL_isTold_504 (by decide +kernel) ?_
                    refine lv_iload hx hb dL_isTold_506 (lv_at hl 15 rfl) ?_
                    refine nv_imul hx hb dL_isTold_508 ?_
                    refine nv_iadd hx hb dL_isTold_509 ?_
                    rw [show f + 8 * e = pN (10 * f + e) from (pN_of (by omega) (by omega)).symm]
                    refine lv_iload hx hb dL_isTold_510 (lv_at hl 16 rfl) ?_
                    refine lv_iload hx hb dL_isTold_512 (lv_at hl 17 rfl) ?_
                    refine lv_aload hx hb dL_isTold_514 (lv_at hl 10 rfl) ?_
                    refine lv_iconst (v := nI 1) hx hb dL_isTold_516 (by decide +kernel) ?_
                    refine nv_ialdE (q0 := 7) (t0 := 0) (v := s_n σ) (l_g σ) (rfl) hx hb hK hP rfl rfl (by decide) (by decide) dL_isTold_517 ?_
                    refine vp_callSi (va_Run.run (va_runS (As := [.ref (la 0), .ref (la 1), .ref (la 2), .ref (la 4), .int (nI (pN (10 * f + e))), .int (nI t), .int (nI kn), .int (nI (s_n σ))]) (rest := [.int (eN (q_join σ (10 * f + e) t kn))]) ⟨hx, hb, hml, hown, hts⟩ (c_L_find l dD cI cR cS lo la σ hI hL.1 (10 * f + e) (t) (kn) (s_n σ) (by omega) (by omega) (by omega) (Nat.le_refl _)) (va_cwS 8 hts gL_isTold_L_find rfl rfl rfl (by decide +kernel) ⟨Nat.le_of_ble_eq_true rfl, Nat.le_of_ble_eq_true rfl⟩) (ePreS hE (kH.S hk) (hP.sub [0, 1, 2, 4] rfl)) rfl rfl hl.1 rfl (lv_room (Nat.le_of_ble_eq_true rfl)) dL_isTold_518 ⟨(by omega : 360 + 17 * n + 4 + 0 ≤ 500), (by omega : 2160 + 102 * n + 24 + 0 ≤ 3000)⟩)) (fun r_518 hr_518 => ?_)
                    have hr_518 : r_518 = eN (q_join σ (10 * f + e) t kn) := hr_518
                    subst hr_518
                    refine lv_icmp_ne (tgt := 539) hx hb dL_isTold_521 (by decide) (fun c_521 => absurd rfl c_521) (fun c_521 => ?_)
                    refine lv_aload_n hx hb dL_isTold_524 rfl (lv_at hl 0 rfl) ?_
                    refine lv_iload hx hb dL_isTold_525 (lv_at hl 14 rfl) ?_
                    refine lv_iload hx hb dL_isTold_527 (lv_at hl 15 rfl) ?_
                    refine lv_iload hx hb dL_isTold_529 (lv_at hl 18 rfl) ?_
                    refine nx_callKv (v := nI (q_rev σ (10 * f + e) T (s_now σ / T + 1))) (vx_runSW (As := [.ref x0, .int (nI f), .int (nI e), .int (nI T)]) (rest := []) ⟨hx, hb, hml, hown, hts⟩ (c_L_revised l dD cI cR cS lo hfl x0 b ra sb hd ol σ hI hX (nI f) (nI e) (nI T)) (vx_cwSW 4 hts gL_isTold_L_revised rfl rfl rfl (by decide +kernel) ⟨Nat.le_of_ble_eq_true rfl, Nat.le_of_ble_eq_true rfl⟩) (ePreS hE (kH.S hk) (vP_app2 hP)) rfl rfl hl.1 rfl (lv_room (Nat.le_of_ble_eq_true rfl)) dL_isTold_531 ⟨(by omega : 360 + 17 * n + 4 + 3 ≤ 500), (by omega : 2160 + 102 * n + 24 + 18 ≤ 3000)⟩) (fun r h => (hv_l ⟨okP_n (by omega) (by omega), rg_n hT1 hT2 (by decide)⟩ h).trans (by rw [plN_n (by omega) (by omega), cl_nI (show T < 2 ^ 31 by omega)])) (fun H1 hk_531 => ?_)
                    have hP := hk_531.P hP
                    have hk := hk.tr hk_531
                    refine lv_iload hx hb dL_isTold_534 (lv_at hl 19 rfl) ?_
                    refine lv_icmp_eq (tgt := 541) hx hb dL_isTold_536 (by decide) (fun c_536 => ?_) (fun c_536 => absurd rfl c_536)
                    have hj_569 : ∀ (ln : Nat) (_ : 1 ≤ ln) (_ : ln ≤ 10000) (ls : Array Slot), lv_has ls 21 [(0, .ref x0), (1, .int y), (2, .int z), (3, .ref (la 0)), (4, .ref (la 1)), (5, .ref (la 2)), (6, .ref (la 3)), (7, .ref (la 4)), (8, .ref (la 5)), (9, .ref (la 6)), (10, .ref (la 7)), (11, .int (nI (q_uns σ (s_k σ)))), (12, .int (nI (q_skew σ 60))), (13, .int (nI n)), (14, .int (nI f)), (15, .int (nI e)), (16, .int (nI t)), (17, .int (nI kn)), (18, .int (nI T)), (19, .int (nI (q_rev σ (10 * f + e) T (s_now σ / T + 1))))] → W p l e_ (headSpec wsL_isTold ({ frames := 11, cells := 500, slots := 3000, locals := 214 })).room s m (([.ref x0, .int y, .int z, .ref (la 0), .ref (la 1), .ref (la 2), .ref (la 3), .ref (la 4), .ref (la 5), .ref (la 6), .ref (la 7)] : List Value).toArray) below meth c H1 [] (360 + 17 * n + 4 + 3) (2160 + 102 * n + 24 + 18) (MQ below (lK (fun r => r = nI 1)) (([.ref x0, .int y, .int z, .ref (la 0), .ref (la 1), .ref (la 2), .ref (la 3), .ref (la 4), .ref (la 5), .ref (la 6), .ref (la 7)] : List Value).toArray) s 500 3000 (fun _ => False)) (F0 m 569 ls [.int (nI ln), .int (nI e), .int (nI f), .ref x0]) := by
                      intro ln hn1 hn2 ls hl
                      refine lv_iload hx hb dL_isTold_569 (lv_at hl 16 rfl) ?_
                      refine lv_iload hx hb dL_isTold_571 (lv_at hl 17 rfl) ?_
                      refine nv_ge (tgt := 581) hx hb dL_isTold_573 (by decide) (by omega) (by omega) (fun c_573 => ?_) (fun c_573 => ?_)
                      · refine lv_iload hx hb dL_isTold_581 (lv_at hl 17 rfl) ?_
                        refine lv_iload hx hb dL_isTold_583 (lv_at hl 16 rfl) ?_
                        refine lv_iload hx hb dL_isTold_585 (lv_at hl 17 rfl) ?_
                        refine nv_ge (tgt := 595) hx hb dL_isTold_587 (by decide) (by omega) (by omega) (fun c_587 => ?_) (fun c_587 => absurd c_573 c_587)
                        refine lv_iload hx hb dL_isTold_595 (lv_at hl 16 rfl) ?_
                        refine lv_aload_n hx hb dL_isTold_597 rfl (lv_at hl 3 rfl) ?_
                        refine lv_aload hx hb dL_isTold_598 (lv_at hl 4 rfl) ?_
                        refine lv_aload hx hb dL_isTold_600 (lv_at hl 6 rfl) ?_
                        refine lv_aload hx hb dL_isTold_602 (lv_at hl 10 rfl) ?_
                        refine nx_callKv (v := nI 1) (va_runS (As := [.ref x0, .int (nI f), .int (nI e), .int (nI ln), .int (nI kn), .int (nI t), .ref (la 0), .ref (la 1), .ref (la 3), .ref (la 7)]) (rest := []) ⟨hx, hb, hml, hown, hts⟩ (c_L_areTiles l dD cI cR cS lo hfl la x0 b ra sb hd ol σ hI hX hL f e ln kn t (by omega) (by omega) hn1 hn2 (by omega) (by omega)) (va_cwS 10 hts gL_isTold_L_areTiles rfl rfl rfl (by decide +kernel) ⟨Nat.le_of_ble_eq_true rfl, Nat.le_of_ble_eq_true rfl⟩) (ePreS hE (kH.S hk) hP) rfl rfl hl.1 rfl (lv_room (Nat.le_of_ble_eq_true rfl)) dL_isTold_604 ⟨(by omega : 360 + 17 * n + 4 + 3 + 10 ≤ 500), (by omega : 2160 + 102 * n + 24 + 18 + 60 ≤ 3000)⟩) (fun r h => h) (fun H1 hk_604 => ?_)
                        have hP := hk_604.P hP
                        have hk := hk.tr hk_604
                        refine nv_if_ne (tgt := 612) hx hb dL_isTold_607 (by decide) (by decide) (fun c_607 => ?_) (fun c_607 => absurd c_607 (by decide))
                        refine lv_iinc (v := nI (n + 1)) (lv' := [(13, .int (nI (n + 1))), (0, .ref x0), (1, .int y), (2, .int z), (3, .ref (la 0)), (4, .ref (la 1)), (5, .ref (la 2)), (6, .ref (la 3)), (7, .ref (la 4)), (8, .ref (la 5)), (9, .ref (la 6)), (10, .ref (la 7)), (11, .int (nI (q_uns σ (s_k σ)))), (12, .int (nI (q_skew σ 60))), (14, .int (nI f)), (15, .int (nI e)), (16, .int (nI t)), (17, .int (nI kn)), (18, .int (nI T)), (19, .int (nI (q_rev σ (10 * f + e) T (s_now σ / T + 1))))]) hx hb dL_isTold_612 hl (k := 13) rfl (nv_inc _ 1) (by decide) rfl (fun ls hl => ?_)
                        refine lv_goto (tgt := 292) hx hb dL_isTold_615 (by decide) ?_
                        refine W.widen (k := 360 + 17 * (n + 1)) (n := 2160 + 102 * (n + 1)) (by omega) (by omega) ?_
                        exact ih (n + 1) (by omega) (by omega) _ hk hP ls (lv_sub hl [1, 2, 3, 4, 5, 6, 7, 8, 9, 10, 11, 12, 13, 0] rfl)
                      · refine lv_iload hx hb dL_isTold_576 (lv_at hl 16 rfl) ?_
                        refine lv_goto (tgt := 583) hx hb dL_isTold_578 (by decide) ?_
                        refine lv_iload hx hb dL_isTold_583 (lv_at hl 16 rfl) ?_
                        refine lv_iload hx hb dL_isTold_585 (lv_at hl 17 rfl) ?_
                        refine nv_ge (tgt := 595) hx hb dL_isTold_587 (by decide) (by omega) (by omega) (fun c_587 => absurd c_587 c_573) (fun c_587 => ?_)
                        refine lv_iload hx hb dL_isTold_590 (lv_at hl 17 rfl) ?_
                        refine lv_goto (tgt := 597) hx hb dL_isTold_592 (by decide) ?_
                        refine lv_aload_n hx hb dL_isTold_597 rfl (lv_at hl 3 rfl) ?_
                        refine lv_aload hx hb dL_isTold_598 (lv_at hl 4 rfl) ?_
                        refine lv_aload hx hb dL_isTold_600 (lv_at hl 6 rfl) ?_
                        refine lv_aload hx hb dL_isTold_602 (lv_at hl 10 rfl) ?_
                        refine nx_callKv (v := nI 1) (va_runS (As := [.ref x0, .int (nI f), .int (nI e), .int (nI ln), .int (nI t), .int (nI kn), .ref (la 0), .ref (la 1), .ref (la 3), .ref (la 7)]) (rest := []) ⟨hx, hb, hml, hown, hts⟩ (c_L_areTiles l dD cI cR cS lo hfl la x0 b ra sb hd ol σ hI hX hL f e ln t kn (by omega) (by omega) hn1 hn2 (by omega) (by omega)) (va_cwS 10 hts gL_isTold_L_areTiles rfl rfl rfl (by decide +kernel) ⟨Nat.le_of_ble_eq_true rfl, Nat.le_of_ble_eq_true rfl⟩) (ePreS hE (kH.S hk) hP) rfl rfl hl.1 rfl (lv_room (Nat.le_of_ble_eq_true rfl)) dL_isTold_604 ⟨(by omega : 360 + 17 * n + 4 + 3 + 10 ≤ 500), (by omega : 2160 + 102 * n + 24 + 18 + 60 ≤ 3000)⟩) (fun r h => h) (fun H1 hk_604 => ?_)
                        have hP := hk_604.P hP
                        have hk := hk.tr hk_604
                        refine nv_if_ne (tgt := 612) hx hb dL_isTold_607 (by decide) (by decide) (fun c_607 => ?_) (fun c_607 => absurd c_607 (by decide))
                        refine lv_iinc (v := nI (n + 1)) (lv' := [(13, .int (nI (n + 1))), (0, .ref x0), (1, .int y), (2, .int z), (3, .ref (la 0)), (4, .ref (la 1)), (5, .ref (la 2)), (6, .ref (la 3)), (7, .ref (la 4)), (8, .ref (la 5)), (9, .ref (la 6)), (10, .ref (la 7)), (11, .int (nI (q_uns σ (s_k σ)))), (12, .int (nI (q_skew σ 60))), (14, .int (nI f)), (15, .int (nI e)), (16, .int (nI t)), (17, .int (nI kn)), (18, .int (nI T)), (19, .int (nI (q_rev σ (10 * f + e) T (s_now σ / T + 1))))]) hx hb dL_isTold_612 hl (k := 13) rfl (nv_inc _ 1) (by decide) rfl (fun ls hl => ?_)
                        refine lv_goto (tgt := 292) hx hb dL_isTold_615 (by decide) ?_
                        refine W.widen (k := 360 + 17 * (n + 1)) (n := 2160 + 102 * (n + 1)) (by omega) (by omega) ?_
                        exact ih (n + 1) (by omega) (by omega) _ hk hP ls (lv_sub hl [1, 2, 3, 4, 5, 6, 7, 8, 9, 10, 11, 12, 13, 0] rfl)
                    refine lv_aload_n hx hb dL_isTold_541 rfl (lv_at hl 0 rfl) ?_
                    refine lv_iload hx hb dL_isTold_542 (lv_at hl 14 rfl) ?_
                    refine lv_iload hx hb dL_isTold_544 (lv_at hl 15 rfl) ?_
                    refine lv_iload hx hb dL_isTold_546 (lv_at hl 13 rfl) ?_
                    refine lv_iconst (v := nI 2) hx hb dL_isTold_548 (by decide +kernel) ?_
                    refine nv_ge (tgt := 557) hx hb dL_isTold_549 (by decide) (by omega) (by omega) (fun c_549 => ?_) (fun c_549 => ?_)
                    · refine lv_iconst (v := nI 1) hx hb dL_isTold_557 (by decide +kernel) ?_
                      refine lv_iload_n hx hb dL_isTold_558 rfl (lv_at hl 1 rfl) ?_
                      refine lv_bipush (v := nI 9) hx hb dL_isTold_559 (by decide +kernel) ?_
                      refine lv_ishr hx hb dL_isTold_561 ?_
                      refine lv_sipush (v := nI 200) hx hb dL_isTold_562 (by decide +kernel) ?_
                      refine vp_callSi (va_Run.run (va_runS (As := [.int (y >>> ((nI 9) &&& 31)), .int (nI 200)]) (rest := [.int (nI 1), .int (nI e), .int (nI f), .ref x0]) ⟨hx, hb, hml, hown, hts⟩ (c_L_low l dD cI cR cS lo (y >>> ((nI 9) &&& 31)) (200) (by omega) (by omega)) (va_cwS 2 hts gL_isTold_L_low rfl rfl rfl (by decide +kernel) ⟨Nat.le_of_ble_eq_true rfl, Nat.le_of_ble_eq_true rfl⟩) (ePreS hE (kH.S hk) trivial) rfl rfl hl.1 rfl (lv_room (Nat.le_of_ble_eq_true rfl)) dL_isTold_565 ⟨(by omega : 360 + 17 * n + 4 + 3 + 0 ≤ 500), (by omega : 2160 + 102 * n + 24 + 18 + 0 ≤ 3000)⟩)) (fun r_565 hr_565 => ?_)
                      obtain ⟨ln, hln, rfl⟩ := hr_565
                      refine nv_iadd hx hb dL_isTold_568 ?_
                      exact hj_569 (1 + ln) (by omega) (by omega) ls hl
                    · refine lv_iload hx hb dL_isTold_552 (lv_at hl 18 rfl) ?_
                      refine lv_goto (tgt := 569) hx hb dL_isTold_554 (by decide) ?_
                      exact hj_569 T (by omega) (by omega) ls hl
                  have lp_397 : ∀ (d3 : Nat) (i : Nat), i * T ≤ s_now σ + T → i ≤ s_now σ + 1 → s_now σ + 1 < i + d3 → ∀ (ls : Array Slot), lv_has ls 21 [(0, .ref x0), (1, .int y), (2, .int z), (3, .ref (la 0)), (4, .ref (la 1)), (5, .ref (la 2)), (6, .ref (la 3)), (7, .ref (la 4)), (8, .ref (la 5)), (9, .ref (la 6)), (10, .ref (la 7)), (11, .int (nI (q_uns σ (s_k σ)))), (12, .int (nI (q_skew σ 60))), (13, .int (nI n)), (14, .int (nI f)), (15, .int (nI e)), (16, .int (nI t)), (17, .int (nI kn)), (18, .int (nI T)), (19, .int (nI (q_rev σ (10 * f + e) T i))), (20, .int (nI (i * T)))] → W p l e_ (headSpec wsL_isTold ({ frames := 11, cells := 500, slots := 3000, locals := 214 })).room s m (([.ref x0, .int y, .int z, .ref (la 0), .ref (la 1), .ref (la 2), .ref (la 3), .ref (la 4), .ref (la 5), .ref (la 6), .ref (la 7)] : List Value).toArray) below meth c H [] (360 + 17 * n) (2160 + 102 * n) (MQ below (lK (fun r => r = nI 1)) (([.ref x0, .int y, .int z, .ref (la 0), .ref (la 1), .ref (la 2), .ref (la 3), .ref (la 4), .ref (la 5), .ref (la 6), .ref (la 7)] : List Value).toArray) s 500 3000 (fun _ => False)) (F0 m 397 ls []) := by
                    intro d3
                    induction d3 with
                    | zero =>
                      intro i hi1 hi2 hi3 ls hl
                      exact absurd hi3 (by omega)
                    | succ d3 ih3 =>
                      intro i hi1 hi2 hi3 ls hl
                      refine lv_iload hx hb dL_isTold_397 (lv_at hl 20 rfl) ?_
                      refine lv_aload hx hb dL_isTold_399 (lv_at hl 10 rfl) ?_
                      refine lv_iconst (v := nI 0) hx hb dL_isTold_401 (by decide +kernel) ?_
                      refine nv_ialdE (q0 := 7) (t0 := 0) (v := s_now σ) (l_g σ) (rfl) hx hb hK hP rfl rfl (by decide) (by decide) dL_isTold_402 ?_
                      refine nv_gt (tgt := 483) hx hb dL_isTold_403 (by decide) (by omega) (by omega) (fun c_403 => ?_) (fun c_403 => ?_)
                      · exact hj_483 ls (by rw [← (show i = s_now σ / T + 1 from rev_j hi1 c_403)]; exact lv_sub hl [0, 1, 2, 3, 4, 5, 6, 7, 8, 9, 10, 11, 12, 13, 14, 15, 16, 17, 18, 19] rfl)
                      · have hz_i : i ≤ i * T := Nat.le_mul_of_pos_right i (by omega)
                        have hz_1 := q_join_le σ (10 * f + e) (i * T) (i * T)
                        have hz_2 := q_join_le σ (10 * f + e) (i * T) (s_now σ)
                        have hz_r := q_rev_le σ (10 * f + e) T i
                        refine lv_iload hx hb dL_isTold_406 (lv_at hl 19 rfl) ?_
                        refine lv_aload_n hx hb dL_isTold_408 rfl (lv_at hl 3 rfl) ?_
                        refine lv_aload hx hb dL_isTold_409 (lv_at hl 4 rfl) ?_
                        refine lv_aload hx hb dL_isTold_411 (lv_at hl 5 rfl) ?_
                        refine lv_aload hx hb dL_isTold_413 (lv_at hl 7 rfl) ?_
                        refine lv_iload hx hb dL_isTold_415 (lv_at hl 14 rfl) ?_
                        refine lv_bipush (v := nI 8) hx hb dL_isTold_417 (by decide +kernel) ?_
                        refine lv_iload hx hb dL_isTold_419 (lv_at hl 15 rfl) ?_
                        refine nv_imul hx hb dL_isTold_421 ?_
                        refine nv_iadd hx hb dL_isTold_422 ?_
                        rw [show f + 8 * e = pN (10 * f + e) from (pN_of (by omega) (by omega)).symm]
                        refine lv_iload hx hb dL_isTold_423 (lv_at hl 20 rfl) ?_
                        refine lv_iload hx hb dL_isTold_425 (lv_at hl 20 rfl) ?_
                        refine lv_aload hx hb dL_isTold_427 (lv_at hl 10 rfl) ?_
                        refine lv_iconst (v := nI 1) hx hb dL_isTold_429 (by decide +kernel) ?_
                        refine nv_ialdE (q0 := 7) (t0 := 0) (v := s_n σ) (l_g σ) (rfl) hx hb hK hP rfl rfl (by decide) (by decide) dL_isTold_430 ?_
                        refine vp_callSi (va_Run.run (va_runS (As := [.ref (la 0), .ref (la 1), .ref (la 2), .ref (la 4), .int (nI (pN (10 * f + e))), .int (nI (i * T)), .int (nI (i * T)), .int (nI (s_n σ))]) (rest := [.int (nI (q_rev σ (10 * f + e) T i))]) ⟨hx, hb, hml, hown, hts⟩ (c_L_find l dD cI cR cS lo la σ hI hL.1 (10 * f + e) (i * T) (i * T) (s_n σ) (by omega) (by omega) (by omega) (Nat.le_refl _)) (va_cwS 8 hts gL_isTold_L_find rfl rfl rfl (by decide +kernel) ⟨Nat.le_of_ble_eq_true rfl, Nat.le_of_ble_eq_true rfl⟩) (ePreS hE (kH.S hk) (hP.sub [0, 1, 2, 4] rfl)) rfl rfl hl.1 rfl (lv_room (Nat.le_of_ble_eq_true rfl)) dL_isTold_431 ⟨(by omega : 360 + 17 * n + 0 ≤ 500), (by omega : 2160 + 102 * n + 0 ≤ 3000)⟩)) (fun r_431 hr_431 => ?_)
                        have hr_431 : r_431 = eN (q_join σ (10 * f + e) (i * T) (i * T)) := hr_431
                        subst hr_431
                        refine lv_aload_n hx hb dL_isTold_434 rfl (lv_at hl 3 rfl) ?_
                        refine lv_aload hx hb dL_isTold_435 (lv_at hl 4 rfl) ?_
                        refine lv_aload hx hb dL_isTold_437 (lv_at hl 5 rfl) ?_
                        refine lv_aload hx hb dL_isTold_439 (lv_at hl 7 rfl) ?_
                        refine lv_iload hx hb dL_isTold_441 (lv_at hl 14 rfl) ?_
                        refine lv_bipush (v := nI 8) hx hb dL_isTold_443 (by decide +kernel) ?_
                        refine lv_iload hx hb dL_isTold_445 (lv_at hl 15 rfl) ?_
                        refine nv_imul hx hb dL_isTold_447 ?_
                        refine nv_iadd hx hb dL_isTold_448 ?_
                        rw [show f + 8 * e = pN (10 * f + e) from (pN_of (by omega) (by omega)).symm]
                        refine lv_iload hx hb dL_isTold_449 (lv_at hl 20 rfl) ?_
                        refine lv_aload hx hb dL_isTold_451 (lv_at hl 10 rfl) ?_
                        refine lv_iconst (v := nI 0) hx hb dL_isTold_453 (by decide +kernel) ?_
                        refine nv_ialdE (q0 := 7) (t0 := 0) (v := s_now σ) (l_g σ) (rfl) hx hb hK hP rfl rfl (by decide) (by decide) dL_isTold_454 ?_
                        refine lv_aload hx hb dL_isTold_455 (lv_at hl 10 rfl) ?_
                        refine lv_iconst (v := nI 1) hx hb dL_isTold_457 (by decide +kernel) ?_
                        refine nv_ialdE (q0 := 7) (t0 := 0) (v := s_n σ) (l_g σ) (rfl) hx hb hK hP rfl rfl (by decide) (by decide) dL_isTold_458 ?_
                        refine vp_callSi (va_Run.run (va_runS (As := [.ref (la 0), .ref (la 1), .ref (la 2), .ref (la 4), .int (nI (pN (10 * f + e))), .int (nI (i * T)), .int (nI (s_now σ)), .int (nI (s_n σ))]) (rest := [.int (eN (q_join σ (10 * f + e) (i * T) (i * T))), .int (nI (q_rev σ (10 * f + e) T i))]) ⟨hx, hb, hml, hown, hts⟩ (c_L_find l dD cI cR cS lo la σ hI hL.1 (10 * f + e) (i * T) (s_now σ) (s_n σ) (by omega) (by omega) (by omega) (Nat.le_refl _)) (va_cwS 8 hts gL_isTold_L_find rfl rfl rfl (by decide +kernel) ⟨Nat.le_of_ble_eq_true rfl, Nat.le_of_ble_eq_true rfl⟩) (ePreS hE (kH.S hk) (hP.sub [0, 1, 2, 4] rfl)) rfl rfl hl.1 rfl (lv_room (Nat.le_of_ble_eq_true rfl)) dL_isTold_459 ⟨(by omega : 360 + 17 * n + 0 ≤ 500), (by omega : 2160 + 102 * n + 0 ≤ 3000)⟩)) (fun r_459 hr_459 => ?_)
                        have hr_459 : r_459 = eN (q_join σ (10 * f + e) (i * T) (s_now σ)) := hr_459
                        subst hr_459
                        refine nv_neN (tgt := 469) hx hb dL_isTold_462 (by decide) (by omega) (by omega) (fun c_462 => ?_) (fun c_462 => ?_)
                        · refine lv_iconst (v := nI 1) hx hb dL_isTold_469 (by decide +kernel) ?_
                          refine nv_iadd hx hb dL_isTold_470 ?_
                          refine lv_istore (lv' := [(19, .int (nI ((q_rev σ (10 * f + e) T i) + 1))), (0, .ref x0), (1, .int y), (2, .int z), (3, .ref (la 0)), (4, .ref (la 1)), (5, .ref (la 2)), (6, .ref (la 3)), (7, .ref (la 4)), (8, .ref (la 5)), (9, .ref (la 6)), (10, .ref (la 7)), (11, .int (nI (q_uns σ (s_k σ)))), (12, .int (nI (q_skew σ 60))), (13, .int (nI n)), (14, .int (nI f)), (15, .int (nI e)), (16, .int (nI t)), (17, .int (nI kn)), (18, .int (nI T)), (20, .int (nI (i * T)))]) hx hb dL_isTold_471 hl (by decide) rfl (fun ls hl => ?_)
                          refine lv_iload hx hb dL_isTold_473 (lv_at hl 20 rfl) ?_
                          refine lv_iload hx hb dL_isTold_475 (lv_at hl 19 rfl) ?_
                          refine nv_iadd hx hb dL_isTold_477 ?_
                          refine lv_istore (lv' := [(20, .int (nI ((i * T) + T))), (19, .int (nI ((q_rev σ (10 * f + e) T i) + 1))), (0, .ref x0), (1, .int y), (2, .int z), (3, .ref (la 0)), (4, .ref (la 1)), (5, .ref (la 2)), (6, .ref (la 3)), (7, .ref (la 4)), (8, .ref (la 5)), (9, .ref (la 6)), (10, .ref (la 7)), (11, .int (nI (q_uns σ (s_k σ)))), (12, .int (nI (q_skew σ 60))), (13, .int (nI n)), (14, .int (nI f)), (15, .int (nI e)), (16, .int (nI t)), (17, .int (nI kn)), (18, .int (nI T))]) hx hb dL_isTold_478 hl (by decide) rfl (fun ls hl => ?_)
                          refine lv_goto (tgt := 397) hx hb dL_isTold_480 (by decide) ?_
                          have e1 : q_rev σ (10 * f + e) T (i + 1) = q_rev σ (10 * f + e) T i + 1 := q_rev_n c_462
                          have e2 : (i + 1) * T = i * T + T := Nat.succ_mul i T
                          exact ih3 (i + 1) (by rw [e2]; omega) (by omega) (by omega) ls (by rw [e1, e2]; exact lv_sub hl [2, 3, 4, 5, 6, 7, 8, 9, 10, 11, 12, 13, 14, 15, 16, 17, 18, 19, 20, 1, 0] rfl)
                        · refine lv_iconst (v := nI 0) hx hb dL_isTold_465 (by decide +kernel) ?_
                          refine lv_goto (tgt := 470) hx hb dL_isTold_466 (by decide) ?_
                          refine nv_iadd hx hb dL_isTold_470 ?_
                          refine lv_istore (lv' := [(19, .int (nI ((q_rev σ (10 * f + e) T i) + 0))), (0, .ref x0), (1, .int y), (2, .int z), (3, .ref (la 0)), (4, .ref (la 1)), (5, .ref (la 2)), (6, .ref (la 3)), (7, .ref (la 4)), (8, .ref (la 5)), (9, .ref (la 6)), (10, .ref (la 7)), (11, .int (nI (q_uns σ (s_k σ)))), (12, .int (nI (q_skew σ 60))), (13, .int (nI n)), (14, .int (nI f)), (15, .int (nI e)), (16, .int (nI t)), (17, .int (nI kn)), (18, .int (nI T)), (20, .int (nI (i * T)))]) hx hb dL_isTold_471 hl (by decide) rfl (fun ls hl => ?_)
                          refine lv_iload hx hb dL_isTold_473 (lv_at hl 20 rfl) ?_
                          refine lv_iload hx hb dL_isTold_475 (lv_at hl 19 rfl) ?_
                          refine nv_iadd hx hb dL_isTold_477 ?_
                          refine lv_istore (lv' := [(20, .int (nI ((i * T) + T))), (19, .int (nI ((q_rev σ (10 * f + e) T i) + 0))), (0, .ref x0), (1, .int y), (2, .int z), (3, .ref (la 0)), (4, .ref (la 1)), (5, .ref (la 2)), (6, .ref (la 3)), (7, .ref (la 4)), (8, .ref (la 5)), (9, .ref (la 6)), (10, .ref (la 7)), (11, .int (nI (q_uns σ (s_k σ)))), (12, .int (nI (q_skew σ 60))), (13, .int (nI n)), (14, .int (nI f)), (15, .int (nI e)), (16, .int (nI t)), (17, .int (nI kn)), (18, .int (nI T))]) hx hb dL_isTold_478 hl (by decide) rfl (fun ls hl => ?_)
                          refine lv_goto (tgt := 397) hx hb dL_isTold_480 (by decide) ?_
                          have e1 : q_rev σ (10 * f + e) T (i + 1) = q_rev σ (10 * f + e) T i := q_rev_y c_462
                          have e2 : (i + 1) * T = i * T + T := Nat.succ_mul i T
                          exact ih3 (i + 1) (by rw [e2]; omega) (by omega) (by omega) ls (by rw [e1, e2]; exact lv_sub hl [2, 3, 4, 5, 6, 7, 8, 9, 10, 11, 12, 13, 14, 15, 16, 17, 18, 19, 20, 1, 0] rfl)
                  exact lp_397 (s_now σ + 2) 0 (by rw [Nat.zero_mul]; exact Nat.zero_le _) (Nat.zero_le _) (by omega) ls (by rw [Nat.zero_mul]; exact lv_sub hl [5, 6, 7, 8, 9, 10, 11, 12, 13, 14, 15, 16, 17, 18, 4, 3, 19, 2, 20, 1, 0] rfl)
                refine lv_iconst (v := nI 1) hx hb dL_isTold_367 (by decide +kernel) ?_
                refine lv_iload_n hx hb dL_isTold_368 rfl (lv_at hl 5 rfl) ?_
                refine lv_bipush (v := nI 8) hx hb dL_isTold_369 (by decide +kernel) ?_
                refine lv_ishr hx hb dL_isTold_371 ?_
                refine lv_iload hx hb dL_isTold_372 (lv_at hl 16 rfl) ?_
                refine nv_if_ne (tgt := 383) hx hb dL_isTold_374 (by decide) (by omega) (fun c_374 => ?_) (fun c_374 => ?_)
                · refine lv_bipush (v := nI 25) hx hb dL_isTold_383 (by decide +kernel) ?_
                  refine vp_callSi (va_Run.run (va_runS (As := [.int (z >>> ((nI 8) &&& 31)), .int (nI 25)]) (rest := [.int (nI 1)]) ⟨hx, hb, hml, hown, hts⟩ (c_L_low l dD cI cR cS lo (z >>> ((nI 8) &&& 31)) (25) (by omega) (by omega)) (va_cwS 2 hts gL_isTold_L_low rfl rfl rfl (by decide +kernel) ⟨Nat.le_of_ble_eq_true rfl, Nat.le_of_ble_eq_true rfl⟩) (ePreS hE (kH.S hk) trivial) rfl rfl hl.1 rfl (lv_room (Nat.le_of_ble_eq_true rfl)) dL_isTold_385 ⟨(by omega : 360 + 17 * n + 0 ≤ 500), (by omega : 2160 + 102 * n + 0 ≤ 3000)⟩)) (fun r_385 hr_385 => ?_)
                  obtain ⟨T, hT, rfl⟩ := hr_385
                  refine nv_iadd hx hb dL_isTold_388 ?_
                  refine lv_istore (lv' := [(18, .int (nI (1 + T))), (17, .int (nI kn)), (15, .int (nI e)), (14, .int (nI f)), (0, .ref x0), (1, .int y), (2, .int z), (3, .ref (la 0)), (4, .ref (la 1)), (5, .ref (la 2)), (6, .ref (la 3)), (7, .ref (la 4)), (8, .ref (la 5)), (9, .ref (la 6)), (10, .ref (la 7)), (11, .int (nI (q_uns σ (s_k σ)))), (12, .int (nI (q_skew σ 60))), (13, .int (nI n)), (16, .int (nI t))]) hx hb dL_isTold_389 hl (by decide) rfl (fun ls hl => ?_)
                  exact hj_391 (1 + T) (by omega) (by omega) ls (lv_sub hl [1, 2, 3, 4, 5, 6, 7, 8, 9, 10, 11, 12, 13, 14, 15, 16, 17, 18, 0] rfl)
                · refine lv_sipush (v := nI 10000) hx hb dL_isTold_377 (by decide +kernel) ?_
                  refine lv_goto (tgt := 385) hx hb dL_isTold_380 (by decide) ?_
                  refine vp_callSi (va_Run.run (va_runS (As := [.int (z >>> ((nI 8) &&& 31)), .int (nI 10000)]) (rest := [.int (nI 1)]) ⟨hx, hb, hml, hown, hts⟩ (c_L_low l dD cI cR cS lo (z >>> ((nI 8) &&& 31)) (10000) (by omega) (by omega)) (va_cwS 2 hts gL_isTold_L_low rfl rfl rfl (by decide +kernel) ⟨Nat.le_of_ble_eq_true rfl, Nat.le_of_ble_eq_true rfl⟩) (ePreS hE (kH.S hk) trivial) rfl rfl hl.1 rfl (lv_room (Nat.le_of_ble_eq_true rfl)) dL_isTold_385 ⟨(by omega : 360 + 17 * n + 0 ≤ 500), (by omega : 2160 + 102 * n + 0 ≤ 3000)⟩)) (fun r_385 hr_385 => ?_)
                  obtain ⟨T, hT, rfl⟩ := hr_385
                  refine nv_iadd hx hb dL_isTold_388 ?_
                  refine lv_istore (lv' := [(18, .int (nI (1 + T))), (17, .int (nI kn)), (15, .int (nI e)), (14, .int (nI f)), (0, .ref x0), (1, .int y), (2, .int z), (3, .ref (la 0)), (4, .ref (la 1)), (5, .ref (la 2)), (6, .ref (la 3)), (7, .ref (la 4)), (8, .ref (la 5)), (9, .ref (la 6)), (10, .ref (la 7)), (11, .int (nI (q_uns σ (s_k σ)))), (12, .int (nI (q_skew σ 60))), (13, .int (nI n)), (16, .int (nI t))]) hx hb dL_isTold_389 hl (by decide) rfl (fun ls hl => ?_)
                  exact hj_391 (1 + T) (by omega) (by omega) ls (lv_sub hl [1, 2, 3, 4, 5, 6, 7, 8, 9, 10, 11, 12, 13, 14, 15, 16, 17, 18, 0] rfl)
              refine lv_iload hx hb dL_isTold_320 (lv_at hl 15 rfl) ?_
              refine nv_if_ne (tgt := 335) hx hb dL_isTold_322 (by decide) (by omega) (fun c_322 => ?_) (fun c_322 => ?_)
              · refine lv_iload_n hx hb dL_isTold_335 rfl (lv_at hl 4 rfl) ?_
                refine lv_iload hx hb dL_isTold_336 (lv_at hl 15 rfl) ?_
                refine lv_ishr hx hb dL_isTold_338 ?_
                refine lv_aload hx hb dL_isTold_339 (lv_at hl 12 rfl) ?_
                refine lv_iconst (v := nI 0) hx hb dL_isTold_341 (by decide +kernel) ?_
                refine nv_ialdE (q0 := 7) (t0 := 0) (v := s_now σ) (l_g σ) (rfl) hx hb hK hP rfl rfl (by decide) (by decide) dL_isTold_342 ?_
                refine lv_iconst (v := nI 1) hx hb dL_isTold_343 (by decide +kernel) ?_
                refine nv_iadd hx hb dL_isTold_344 ?_
                refine vp_callSi (va_Run.run (va_runS (As := [.int (z >>> ((nI n) &&& 31)), .int (nI ((s_now σ) + 1))]) (rest := []) ⟨hx, hb, hml, hown, hts⟩ (c_L_low l dD cI cR cS lo (z >>> ((nI n) &&& 31)) ((s_now σ) + 1) (by omega) (by omega)) (va_cwS 2 hts gL_isTold_L_low rfl rfl rfl (by decide +kernel) ⟨Nat.le_of_ble_eq_true rfl, Nat.le_of_ble_eq_true rfl⟩) (ePreS hE (kH.S hk) trivial) rfl rfl hl.1 rfl (lv_room (Nat.le_of_ble_eq_true rfl)) dL_isTold_345 ⟨(by omega : 360 + 17 * n + 0 ≤ 500), (by omega : 2160 + 102 * n + 0 ≤ 3000)⟩)) (fun r_345 hr_345 => ?_)
                obtain ⟨t, ht, rfl⟩ := hr_345
                refine lv_istore (lv' := [(16, .int (nI t)), (15, .int (nI e)), (14, .int (nI f)), (0, .ref x0), (1, .int y), (2, .int z), (3, .ref (la 0)), (4, .ref (la 1)), (5, .ref (la 2)), (6, .ref (la 3)), (7, .ref (la 4)), (8, .ref (la 5)), (9, .ref (la 6)), (10, .ref (la 7)), (11, .int (nI (q_uns σ (s_k σ)))), (12, .int (nI (q_skew σ 60))), (13, .int (nI n))]) hx hb dL_isTold_348 hl (by decide) rfl (fun ls hl => ?_)
                exact hj_350 t (by omega) ls (lv_sub hl [1, 2, 3, 4, 5, 6, 7, 8, 9, 10, 11, 12, 13, 14, 15, 16, 0] rfl)
              · refine lv_iload_n hx hb dL_isTold_325 rfl (lv_at hl 4 rfl) ?_
                refine lv_sipush (v := nI 10001) hx hb dL_isTold_326 (by decide +kernel) ?_
                refine vp_callSi (va_Run.run (va_runS (As := [.int z, .int (nI 10001)]) (rest := []) ⟨hx, hb, hml, hown, hts⟩ (c_L_low l dD cI cR cS lo z (10001) (by omega) (by omega)) (va_cwS 2 hts gL_isTold_L_low rfl rfl rfl (by decide +kernel) ⟨Nat.le_of_ble_eq_true rfl, Nat.le_of_ble_eq_true rfl⟩) (ePreS hE (kH.S hk) trivial) rfl rfl hl.1 rfl (lv_room (Nat.le_of_ble_eq_true rfl)) dL_isTold_329 ⟨(by omega : 360 + 17 * n + 0 ≤ 500), (by omega : 2160 + 102 * n + 0 ≤ 3000)⟩)) (fun r_329 hr_329 => ?_)
                obtain ⟨t, ht, rfl⟩ := hr_329
                refine lv_goto (tgt := 348) hx hb dL_isTold_332 (by decide) ?_
                refine lv_istore (lv' := [(16, .int (nI t)), (15, .int (nI e)), (14, .int (nI f)), (0, .ref x0), (1, .int y), (2, .int z), (3, .ref (la 0)), (4, .ref (la 1)), (5, .ref (la 2)), (6, .ref (la 3)), (7, .ref (la 4)), (8, .ref (la 5)), (9, .ref (la 6)), (10, .ref (la 7)), (11, .int (nI (q_uns σ (s_k σ)))), (12, .int (nI (q_skew σ 60))), (13, .int (nI n))]) hx hb dL_isTold_348 hl (by decide) rfl (fun ls hl => ?_)
                exact hj_350 t (by omega) ls (lv_sub hl [1, 2, 3, 4, 5, 6, 7, 8, 9, 10, 11, 12, 13, 14, 15, 16, 0] rfl)
        exact lp_292 5 0 (by decide) (by decide) _ hk hP ls (lv_sub hl [1, 2, 3, 4, 5, 6, 7, 8, 9, 10, 11, 12, 13, 0] rfl)
      have lp_184 : ∀ (d : Nat) (j : Nat), j ≤ 60 → 60 < j + d → ∀ (H : Heap), kH s.heap H → va_P dD vwCl (lW cI la σ ++ xW cI cR cS x0 b ra sb hd ol σ) H → ∀ (ls : Array Slot), lv_has ls 21 [(0, .ref x0), (1, .int y), (2, .int z), (3, .ref (la 0)), (4, .ref (la 1)), (5, .ref (la 2)), (6, .ref (la 3)), (7, .ref (la 4)), (8, .ref (la 5)), (9, .ref (la 6)), (10, .ref (la 7)), (11, .int (nI (q_uns σ (s_k σ)))), (12, .int (nI (t_sk σ j))), (13, .int (nI j))] → W p l e_ (headSpec wsL_isTold ({ frames := 11, cells := 500, slots := 3000, locals := 214 })).room s m (([.ref x0, .int y, .int z, .ref (la 0), .ref (la 1), .ref (la 2), .ref (la 3), .ref (la 4), .ref (la 5), .ref (la 6), .ref (la 7)] : List Value).toArray) below meth c H [] (240 + 2 * j) (1440 + 12 * j) (MQ below (lK (fun r => r = nI 1)) (([.ref x0, .int y, .int z, .ref (la 0), .ref (la 1), .ref (la 2), .ref (la 3), .ref (la 4), .ref (la 5), .ref (la 6), .ref (la 7)] : List Value).toArray) s 500 3000 (fun _ => False)) (F0 m 184 ls []) := by
        intro d
        induction d with
        | zero =>
          intro j hr1 hr2 H hk hP ls hl
          exact absurd hr2 (by omega)
        | succ d ih =>
          intro j hr1 hr2 H hk hP ls hl
          refine lv_iload hx hb dL_isTold_184 (lv_at hl 13 rfl) ?_
          refine lv_bipush (v := nI 60) hx hb dL_isTold_186 (by decide +kernel) ?_
          refine nv_ge (tgt := 289) hx hb dL_isTold_188 (by decide) (by omega) (by omega) (fun c_188 => ?_) (fun c_188 => ?_)
          · refine W.widen (k := 360) (n := 2160) (by omega) (by omega) ?_
            exact hj_289 _ hk hP ls (by rw [← t_sk_60, ← (show j = 60 by omega)]; exact lv_sub hl [0, 1, 2, 3, 4, 5, 6, 7, 8, 9, 10, 11, 12] rfl)
          · have hz_n := hL.1
            have hz_a := q_fr_self σ (s_cp σ (10 * (j % 6) + j / 6)) (s_now σ)
            have hz_b := (i_cp (10 * (j % 6) + j / 6) (by omega)).1
            have hz_j := q_join_le σ (10 * (j % 6) + j / 6) (s_now σ) (s_now σ)
            have hz_t := t_sk_le σ j
            refine lv_iload hx hb dL_isTold_191 (lv_at hl 13 rfl) ?_
            refine lv_bipush (v := nI 6) hx hb dL_isTold_193 (by decide +kernel) ?_
            refine nv_irem hx hb dL_isTold_195 (by omega) (by omega) (by omega) ?_
            refine lv_bipush (v := nI 8) hx hb dL_isTold_196 (by decide +kernel) ?_
            refine lv_iload hx hb dL_isTold_198 (lv_at hl 13 rfl) ?_
            refine lv_bipush (v := nI 6) hx hb dL_isTold_200 (by decide +kernel) ?_
            refine nv_idiv hx hb dL_isTold_202 (by omega) (by omega) (by omega) ?_
            refine nv_imul hx hb dL_isTold_203 ?_
            refine nv_iadd hx hb dL_isTold_204 ?_
            rw [show j % 6 + 8 * (j / 6) = pN (10 * (j % 6) + j / 6) from (pN_of (by omega) (by omega)).symm]
            refine lv_istore (lv' := [(14, .int (nI (pN (10 * (j % 6) + j / 6)))), (0, .ref x0), (1, .int y), (2, .int z), (3, .ref (la 0)), (4, .ref (la 1)), (5, .ref (la 2)), (6, .ref (la 3)), (7, .ref (la 4)), (8, .ref (la 5)), (9, .ref (la 6)), (10, .ref (la 7)), (11, .int (nI (q_uns σ (s_k σ)))), (12, .int (nI (t_sk σ j))), (13, .int (nI j))]) hx hb dL_isTold_205 hl (by decide) rfl (fun ls hl => ?_)
            refine lv_aload_n hx hb dL_isTold_207 rfl (lv_at hl 4 rfl) ?_
            refine lv_aload hx hb dL_isTold_208 (lv_at hl 5 rfl) ?_
            refine lv_aload hx hb dL_isTold_210 (lv_at hl 6 rfl) ?_
            refine lv_aload hx hb dL_isTold_212 (lv_at hl 8 rfl) ?_
            refine lv_aload hx hb dL_isTold_214 (lv_at hl 11 rfl) ?_
            refine lv_iload hx hb dL_isTold_216 (lv_at hl 0 rfl) ?_
            refine vp_callSi (va_Run.run (va_runS (As := [.ref (la 0), .ref (la 1), .ref (la 2), .ref (la 4), .ref (la 7), .int (nI (pN (10 * (j % 6) + j / 6)))]) (rest := []) ⟨hx, hb, hml, hown, hts⟩ (c_L_copied l dD cI cR cS lo la σ hI hL (10 * (j % 6) + j / 6) (by omega)) (va_cwS 6 hts gL_isTold_L_copied rfl rfl rfl (by decide +kernel) ⟨Nat.le_of_ble_eq_true rfl, Nat.le_of_ble_eq_true rfl⟩) (ePreS hE (kH.S hk) (hP.sub [0, 1, 2, 4, 7] rfl)) rfl rfl hl.1 rfl (lv_room (Nat.le_of_ble_eq_true rfl)) dL_isTold_218 ⟨(by omega : 240 + 2 * j + 0 ≤ 500), (by omega : 1440 + 12 * j + 0 ≤ 3000)⟩)) (fun r_218 hr_218 => ?_)
            have hr_218 : r_218 = eN (q_fr σ (s_cp σ (10 * (j % 6) + j / 6)) (s_now σ)) := hr_218
            subst hr_218
            refine lv_istore (lv' := [(15, .int (eN (q_fr σ (s_cp σ (10 * (j % 6) + j / 6)) (s_now σ)))), (14, .int (nI (pN (10 * (j % 6) + j / 6)))), (0, .ref x0), (1, .int y), (2, .int z), (3, .ref (la 0)), (4, .ref (la 1)), (5, .ref (la 2)), (6, .ref (la 3)), (7, .ref (la 4)), (8, .ref (la 5)), (9, .ref (la 6)), (10, .ref (la 7)), (11, .int (nI (q_uns σ (s_k σ)))), (12, .int (nI (t_sk σ j))), (13, .int (nI j))]) hx hb dL_isTold_221 hl (by decide) rfl (fun ls hl => ?_)
            refine lv_aload_n hx hb dL_isTold_223 rfl (lv_at hl 2 rfl) ?_
            refine lv_iload hx hb dL_isTold_224 (lv_at hl 15 rfl) ?_
            refine lv_bipush (v := nI 6) hx hb dL_isTold_226 (by decide +kernel) ?_
            refine nv_irem hx hb dL_isTold_228 (by omega) (by omega) (by omega) ?_
            refine lv_iload hx hb dL_isTold_229 (lv_at hl 15 rfl) ?_
            refine lv_bipush (v := nI 6) hx hb dL_isTold_231 (by decide +kernel) ?_
            refine nv_idiv hx hb dL_isTold_233 (by omega) (by omega) (by omega) ?_
            refine nx_callKv (v := eN (q_fr σ (s_cp σ (10 * (j % 6) + j / 6)) (s_now σ))) (vx_runSW (As := [.ref x0, .int (nI (j % 6)), .int (nI (j / 6))]) (rest := []) ⟨hx, hb, hml, hown, hts⟩ (c_L_online l dD cI cR cS lo hfl x0 b ra sb hd ol σ hI hX (nI (j % 6)) (nI (j / 6))) (vx_cwSW 3 hts gL_isTold_L_online rfl rfl rfl (by decide +kernel) ⟨Nat.le_of_ble_eq_true rfl, Nat.le_of_ble_eq_true rfl⟩) (ePreS hE (kH.S hk) (vP_app2 hP)) rfl rfl hl.1 rfl (lv_room (Nat.le_of_ble_eq_true rfl)) dL_isTold_234 ⟨(by omega : 240 + 2 * j + 2 ≤ 500), (by omega : 1440 + 12 * j + 12 ≤ 3000)⟩) (fun r h => (hv_l (okP_n (by omega) (by omega)) h).trans (by rw [plN_n (by omega) (by omega)])) (fun H1 hk_234 => ?_)
            have hP := hk_234.P hP
            have hk := hk.tr hk_234
            refine lv_iload hx hb dL_isTold_237 (lv_at hl 0 rfl) ?_
            refine lv_icmp_eq (tgt := 244) hx hb dL_isTold_239 (by decide) (fun c_239 => ?_) (fun c_239 => absurd rfl c_239)
            refine lv_iload hx hb dL_isTold_244 (lv_at hl 14 rfl) ?_
            refine lv_iload hx hb dL_isTold_246 (lv_at hl 0 rfl) ?_
            refine lv_aload_n hx hb dL_isTold_248 rfl (lv_at hl 5 rfl) ?_
            refine lv_aload hx hb dL_isTold_249 (lv_at hl 6 rfl) ?_
            refine lv_aload hx hb dL_isTold_251 (lv_at hl 7 rfl) ?_
            refine lv_aload hx hb dL_isTold_253 (lv_at hl 9 rfl) ?_
            refine lv_iload hx hb dL_isTold_255 (lv_at hl 1 rfl) ?_
            refine lv_aload hx hb dL_isTold_257 (lv_at hl 12 rfl) ?_
            refine lv_iconst (v := nI 0) hx hb dL_isTold_259 (by decide +kernel) ?_
            refine nv_ialdE (q0 := 7) (t0 := 0) (v := s_now σ) (l_g σ) (rfl) hx hb hK hP rfl rfl (by decide) (by decide) dL_isTold_260 ?_
            refine lv_aload hx hb dL_isTold_261 (lv_at hl 12 rfl) ?_
            refine lv_iconst (v := nI 0) hx hb dL_isTold_263 (by decide +kernel) ?_
            refine nv_ialdE (q0 := 7) (t0 := 0) (v := s_now σ) (l_g σ) (rfl) hx hb hK hP rfl rfl (by decide) (by decide) dL_isTold_264 ?_
            refine lv_aload hx hb dL_isTold_265 (lv_at hl 12 rfl) ?_
            refine lv_iconst (v := nI 1) hx hb dL_isTold_267 (by decide +kernel) ?_
            refine nv_ialdE (q0 := 7) (t0 := 0) (v := s_n σ) (l_g σ) (rfl) hx hb hK hP rfl rfl (by decide) (by decide) dL_isTold_268 ?_
            refine vp_callSi (va_Run.run (va_runS (As := [.ref (la 0), .ref (la 1), .ref (la 2), .ref (la 4), .int (nI (pN (10 * (j % 6) + j / 6))), .int (nI (s_now σ)), .int (nI (s_now σ)), .int (nI (s_n σ))]) (rest := [.int (eN (q_fr σ (s_cp σ (10 * (j % 6) + j / 6)) (s_now σ))), .int (nI (t_sk σ j))]) ⟨hx, hb, hml, hown, hts⟩ (c_L_find l dD cI cR cS lo la σ hI hL.1 (10 * (j % 6) + j / 6) (s_now σ) (s_now σ) (s_n σ) (by omega) (by omega) (by omega) (Nat.le_refl _)) (va_cwS 8 hts gL_isTold_L_find rfl rfl rfl (by decide +kernel) ⟨Nat.le_of_ble_eq_true rfl, Nat.le_of_ble_eq_true rfl⟩) (ePreS hE (kH.S hk) (hP.sub [0, 1, 2, 4] rfl)) rfl rfl hl.1 rfl (lv_room (Nat.le_of_ble_eq_true rfl)) dL_isTold_269 ⟨(by omega : 240 + 2 * j + 2 + 0 ≤ 500), (by omega : 1440 + 12 * j + 12 + 0 ≤ 3000)⟩)) (fun r_269 hr_269 => ?_)
            have hr_269 : r_269 = eN (q_join σ (10 * (j % 6) + j / 6) (s_now σ) (s_now σ)) := hr_269
            subst hr_269
            refine nv_neN (tgt := 279) hx hb dL_isTold_272 (by decide) (by omega) (by omega) (fun c_272 => ?_) (fun c_272 => ?_)
            · refine lv_iconst (v := nI 1) hx hb dL_isTold_279 (by decide +kernel) ?_
              refine nv_iadd hx hb dL_isTold_280 ?_
              refine lv_istore (lv' := [(12, .int (nI ((t_sk σ j) + 1))), (15, .int (eN (q_fr σ (s_cp σ (10 * (j % 6) + j / 6)) (s_now σ)))), (14, .int (nI (pN (10 * (j % 6) + j / 6)))), (0, .ref x0), (1, .int y), (2, .int z), (3, .ref (la 0)), (4, .ref (la 1)), (5, .ref (la 2)), (6, .ref (la 3)), (7, .ref (la 4)), (8, .ref (la 5)), (9, .ref (la 6)), (10, .ref (la 7)), (11, .int (nI (q_uns σ (s_k σ)))), (13, .int (nI j))]) hx hb dL_isTold_281 hl (by decide) rfl (fun ls hl => ?_)
              refine lv_iinc (v := nI (j + 1)) (lv' := [(13, .int (nI (j + 1))), (12, .int (nI ((t_sk σ j) + 1))), (15, .int (eN (q_fr σ (s_cp σ (10 * (j % 6) + j / 6)) (s_now σ)))), (14, .int (nI (pN (10 * (j % 6) + j / 6)))), (0, .ref x0), (1, .int y), (2, .int z), (3, .ref (la 0)), (4, .ref (la 1)), (5, .ref (la 2)), (6, .ref (la 3)), (7, .ref (la 4)), (8, .ref (la 5)), (9, .ref (la 6)), (10, .ref (la 7)), (11, .int (nI (q_uns σ (s_k σ))))]) hx hb dL_isTold_283 hl (k := 15) rfl (nv_inc _ 1) (by decide) rfl (fun ls hl => ?_)
              refine lv_goto (tgt := 184) hx hb dL_isTold_286 (by decide) ?_
              have e1 : t_sk σ (j + 1) = t_sk σ j + 1 := t_sk_n c_272
              refine W.widen (k := 240 + 2 * (j + 1)) (n := 1440 + 12 * (j + 1)) (by omega) (by omega) ?_
              exact ih (j + 1) (by omega) (by omega) _ hk hP ls (by rw [e1]; exact lv_sub hl [4, 5, 6, 7, 8, 9, 10, 11, 12, 13, 14, 15, 1, 0] rfl)
            · refine lv_iconst (v := nI 0) hx hb dL_isTold_275 (by decide +kernel) ?_
              refine lv_goto (tgt := 280) hx hb dL_isTold_276 (by decide) ?_
              refine nv_iadd hx hb dL_isTold_280 ?_
              refine lv_istore (lv' := [(12, .int (nI ((t_sk σ j) + 0))), (15, .int (eN (q_fr σ (s_cp σ (10 * (j % 6) + j / 6)) (s_now σ)))), (14, .int (nI (pN (10 * (j % 6) + j / 6)))), (0, .ref x0), (1, .int y), (2, .int z), (3, .ref (la 0)), (4, .ref (la 1)), (5, .ref (la 2)), (6, .ref (la 3)), (7, .ref (la 4)), (8, .ref (la 5)), (9, .ref (la 6)), (10, .ref (la 7)), (11, .int (nI (q_uns σ (s_k σ)))), (13, .int (nI j))]) hx hb dL_isTold_281 hl (by decide) rfl (fun ls hl => ?_)
              refine lv_iinc (v := nI (j + 1)) (lv' := [(13, .int (nI (j + 1))), (12, .int (nI ((t_sk σ j) + 0))), (15, .int (eN (q_fr σ (s_cp σ (10 * (j % 6) + j / 6)) (s_now σ)))), (14, .int (nI (pN (10 * (j % 6) + j / 6)))), (0, .ref x0), (1, .int y), (2, .int z), (3, .ref (la 0)), (4, .ref (la 1)), (5, .ref (la 2)), (6, .ref (la 3)), (7, .ref (la 4)), (8, .ref (la 5)), (9, .ref (la 6)), (10, .ref (la 7)), (11, .int (nI (q_uns σ (s_k σ))))]) hx hb dL_isTold_283 hl (k := 15) rfl (nv_inc _ 1) (by decide) rfl (fun ls hl => ?_)
              refine lv_goto (tgt := 184) hx hb dL_isTold_286 (by decide) ?_
              have e1 : t_sk σ (j + 1) = t_sk σ j := t_sk_y c_272
              refine W.widen (k := 240 + 2 * (j + 1)) (n := 1440 + 12 * (j + 1)) (by omega) (by omega) ?_
              exact ih (j + 1) (by omega) (by omega) _ hk hP ls (by rw [e1]; exact lv_sub hl [4, 5, 6, 7, 8, 9, 10, 11, 12, 13, 14, 15, 1, 0] rfl)
      exact lp_184 61 0 (by decide) (by decide) _ hk hP ls (lv_sub hl [2, 3, 4, 5, 6, 7, 8, 9, 10, 11, 12, 13, 1, 0] rfl)
    have lp_60 : ∀ (d : Nat) (i : Nat), i ≤ s_k σ → s_k σ < i + d → ∀ (H : Heap), kH s.heap H → va_P dD vwCl (lW cI la σ ++ xW cI cR cS x0 b ra sb hd ol σ) H → ∀ (ls : Array Slot), lv_has ls 21 [(0, .ref x0), (1, .int y), (2, .int z), (3, .ref (la 0)), (4, .ref (la 1)), (5, .ref (la 2)), (6, .ref (la 3)), (7, .ref (la 4)), (8, .ref (la 5)), (9, .ref (la 6)), (10, .ref (la 7)), (11, .int (nI (q_uns σ i))), (12, .int (nI i))] → W p l e_ (headSpec wsL_isTold ({ frames := 11, cells := 500, slots := 3000, locals := 214 })).room s m (([.ref x0, .int y, .int z, .ref (la 0), .ref (la 1), .ref (la 2), .ref (la 3), .ref (la 4), .ref (la 5), .ref (la 6), .ref (la 7)] : List Value).toArray) below meth c H [] (120 + 2 * i) (720 + 12 * i) (MQ below (lK (fun r => r = nI 1)) (([.ref x0, .int y, .int z, .ref (la 0), .ref (la 1), .ref (la 2), .ref (la 3), .ref (la 4), .ref (la 5), .ref (la 6), .ref (la 7)] : List Value).toArray) s 500 3000 (fun _ => False)) (F0 m 60 ls []) := by
      intro d
      induction d with
      | zero =>
        intro i hr1 hr2 H hk hP ls hl
        exact absurd hr2 (by omega)
      | succ d ih =>
        intro i hr1 hr2 H hk hP ls hl
        refine lv_iload hx hb dL_isTold_60 (lv_at hl 12 rfl) ?_
        refine lv_aload hx hb dL_isTold_62 (lv_at hl 10 rfl) ?_
        refine lv_iconst (v := nI 3) hx hb dL_isTold_64 (by decide +kernel) ?_
        refine nv_ialdE (q0 := 7) (t0 := 0) (v := s_k σ) (l_g σ) (rfl) hx hb hK hP rfl rfl (by decide) (by decide) dL_isTold_65 ?_
        refine nv_ge (tgt := 178) hx hb dL_isTold_66 (by decide) (by omega) (by omega) (fun c_66 => ?_) (fun c_66 => ?_)
        · refine W.widen (k := 240) (n := 1440) (by omega) (by omega) ?_
          exact hj_178 _ hk hP ls (by rw [← (show i = s_k σ by omega)]; exact lv_sub hl [0, 1, 2, 3, 4, 5, 6, 7, 8, 9, 10, 11] rfl)
        · have hz_i := i_srv i (by omega)
          have hz_l : l_q σ i = pN (s_sp σ i) + 128 * s_sa σ i := rfl
          have hz_p := pN_lt hz_i.1
          have hz_n := hL.1
          have hz_s := q_snd_01 σ i
          have hz_j := q_join_le σ (s_sp σ i) (s_sa σ i) (s_sa σ i)
          have hz_u := q_uns_le σ i
          refine lv_aload hx hb dL_isTold_69 (lv_at hl 8 rfl) ?_
          refine lv_iload hx hb dL_isTold_71 (lv_at hl 12 rfl) ?_
          refine nv_iald (q0 := 5) (t0 := 0) (l_q σ) hx hb hK hP rfl rfl (by omega) (by decide) dL_isTold_73 ?_
          refine lv_sipush (v := nI 128) hx hb dL_isTold_74 (by decide +kernel) ?_
          refine nv_idiv hx hb dL_isTold_77 (by omega) (by omega) (by omega) ?_
          rw [show l_q σ i / 128 = s_sa σ i from (pN_sa hz_i.1).2]
          refine lv_istore (lv' := [(13, .int (nI (s_sa σ i))), (0, .ref x0), (1, .int y), (2, .int z), (3, .ref (la 0)), (4, .ref (la 1)), (5, .ref (la 2)), (6, .ref (la 3)), (7, .ref (la 4)), (8, .ref (la 5)), (9, .ref (la 6)), (10, .ref (la 7)), (11, .int (nI (q_uns σ i))), (12, .int (nI i))]) hx hb dL_isTold_78 hl (by decide) rfl (fun ls hl => ?_)
          have hj_122 : ∀ (ls : Array Slot), lv_has ls 21 [(13, .int (nI (s_sa σ i))), (0, .ref x0), (1, .int y), (2, .int z), (3, .ref (la 0)), (4, .ref (la 1)), (5, .ref (la 2)), (6, .ref (la 3)), (7, .ref (la 4)), (8, .ref (la 5)), (9, .ref (la 6)), (10, .ref (la 7)), (11, .int (nI (q_uns σ i))), (12, .int (nI i)), (14, .int (nI (q_snd σ i)))] → W p l e_ (headSpec wsL_isTold ({ frames := 11, cells := 500, slots := 3000, locals := 214 })).room s m (([.ref x0, .int y, .int z, .ref (la 0), .ref (la 1), .ref (la 2), .ref (la 3), .ref (la 4), .ref (la 5), .ref (la 6), .ref (la 7)] : List Value).toArray) below meth c H [] (120 + 2 * i) (720 + 12 * i) (MQ below (lK (fun r => r = nI 1)) (([.ref x0, .int y, .int z, .ref (la 0), .ref (la 1), .ref (la 2), .ref (la 3), .ref (la 4), .ref (la 5), .ref (la 6), .ref (la 7)] : List Value).toArray) s 500 3000 (fun _ => False)) (F0 m 122 ls []) := by
            intro ls hl
            have hj_137 : ∀ (ls : Array Slot), lv_has ls 21 [(13, .int (nI (s_sa σ i))), (0, .ref x0), (1, .int y), (2, .int z), (3, .ref (la 0)), (4, .ref (la 1)), (5, .ref (la 2)), (6, .ref (la 3)), (7, .ref (la 4)), (8, .ref (la 5)), (9, .ref (la 6)), (10, .ref (la 7)), (11, .int (nI (q_uns σ (i + 1)))), (12, .int (nI i)), (14, .int (nI (q_snd σ i)))] → W p l e_ (headSpec wsL_isTold ({ frames := 11, cells := 500, slots := 3000, locals := 214 })).room s m (([.ref x0, .int y, .int z, .ref (la 0), .ref (la 1), .ref (la 2), .ref (la 3), .ref (la 4), .ref (la 5), .ref (la 6), .ref (la 7)] : List Value).toArray) below meth c H [] (120 + 2 * i) (720 + 12 * i) (MQ below (lK (fun r => r = nI 1)) (([.ref x0, .int y, .int z, .ref (la 0), .ref (la 1), .ref (la 2), .ref (la 3), .ref (la 4), .ref (la 5), .ref (la 6), .ref (la 7)] : List Value).toArray) s 500 3000 (fun _ => False)) (F0 m 137 ls []) := by
              intro ls hl
              refine lv_aload_n hx hb dL_isTold_137 rfl (lv_at hl 1 rfl) ?_
              refine lv_iload hx hb dL_isTold_138 (lv_at hl 13 rfl) ?_
              refine nx_callKv (v := eN (s_sv σ i)) (vx_runSW (As := [.ref x0, .int (nI i)]) (rest := []) ⟨hx, hb, hml, hown, hts⟩ (c_L_served l dD cI cR cS lo hfl x0 b ra sb hd ol σ hI hX (nI i)) (vx_cwSW 2 hts gL_isTold_L_served rfl rfl rfl (by decide +kernel) ⟨Nat.le_of_ble_eq_true rfl, Nat.le_of_ble_eq_true rfl⟩) (ePreS hE (kH.S hk) (vP_app2 hP)) rfl rfl hl.1 rfl (lv_room (Nat.le_of_ble_eq_true rfl)) dL_isTold_140 ⟨(by omega : 120 + 2 * i + 1 ≤ 500), (by omega : 720 + 12 * i + 6 ≤ 3000)⟩) (fun r h => (hv_l (ri_n (show i < s_k σ by omega) (by omega)) h).trans (by rw [cl_nI (by omega)])) (fun H1 hk_140 => ?_)
              have hP := hk_140.P hP
              have hk := hk.tr hk_140
              refine lv_aload hx hb dL_isTold_143 (lv_at hl 10 rfl) ?_
              refine lv_iload hx hb dL_isTold_145 (lv_at hl 13 rfl) ?_
              refine nv_eald (q0 := 6) (t0 := 0) (s_sv σ) hx hb hK hP rfl rfl (by omega) (by decide) dL_isTold_147 ?_
              refine lv_icmp_ne (tgt := 170) hx hb dL_isTold_148 (by decide) (fun c_148 => absurd rfl c_148) (fun c_148 => ?_)
              refine lv_aload_n hx hb dL_isTold_151 rfl (lv_at hl 1 rfl) ?_
              refine lv_iload hx hb dL_isTold_152 (lv_at hl 13 rfl) ?_
              refine nx_callKv (v := nI (q_snd σ i)) (vx_runSW (As := [.ref x0, .int (nI i)]) (rest := []) ⟨hx, hb, hml, hown, hts⟩ (c_L_isSound l dD cI cR cS lo hfl x0 b ra sb hd ol σ hI hX (nI i)) (vx_cwSW 2 hts gL_isTold_L_isSound rfl rfl rfl (by decide +kernel) ⟨Nat.le_of_ble_eq_true rfl, Nat.le_of_ble_eq_true rfl⟩) (ePreS hE (kH.S hk) (vP_app2 hP)) rfl rfl hl.1 rfl (lv_room (Nat.le_of_ble_eq_true rfl)) dL_isTold_154 ⟨(by omega : 120 + 2 * i + 1 + 1 ≤ 500), (by omega : 720 + 12 * i + 6 + 6 ≤ 3000)⟩) (fun r h => (hv_l (ri_n (show i < s_k σ by omega) (by omega)) h).trans (by rw [cl_nI (by omega)])) (fun H1 hk_154 => ?_)
              have hP := hk_154.P hP
              have hk := hk.tr hk_154
              refine lv_iload hx hb dL_isTold_157 (lv_at hl 14 rfl) ?_
              refine nv_if_eq (tgt := 166) hx hb dL_isTold_159 (by decide) (by omega) (fun c_159 => ?_) (fun c_159 => ?_)
              · refine lv_iconst (v := nI 0) hx hb dL_isTold_166 (by decide +kernel) ?_
                refine nv_eq (tgt := 172) hx hb dL_isTold_167 (by decide) (by omega) (by omega) (fun c_167 => ?_) (fun c_167 => absurd c_159 c_167)
                refine lv_iinc (v := nI (i + 1)) (lv' := [(12, .int (nI (i + 1))), (13, .int (nI (s_sa σ i))), (0, .ref x0), (1, .int y), (2, .int z), (3, .ref (la 0)), (4, .ref (la 1)), (5, .ref (la 2)), (6, .ref (la 3)), (7, .ref (la 4)), (8, .ref (la 5)), (9, .ref (la 6)), (10, .ref (la 7)), (11, .int (nI (q_uns σ (i + 1)))), (14, .int (nI (q_snd σ i)))]) hx hb dL_isTold_172 hl (k := 13) rfl (nv_inc _ 1) (by decide) rfl (fun ls hl => ?_)
                refine lv_goto (tgt := 60) hx hb dL_isTold_175 (by decide) ?_
                refine W.widen (k := 120 + 2 * (i + 1)) (n := 720 + 12 * (i + 1)) (by omega) (by omega) ?_
                exact ih (i + 1) (by omega) (by omega) _ hk hP ls (lv_sub hl [2, 3, 4, 5, 6, 7, 8, 9, 10, 11, 12, 13, 0] rfl)
              · refine lv_iconst (v := nI 1) hx hb dL_isTold_162 (by decide +kernel) ?_
                refine lv_goto (tgt := 167) hx hb dL_isTold_163 (by decide) ?_
                refine nv_eq (tgt := 172) hx hb dL_isTold_167 (by decide) (by omega) (by omega) (fun c_167 => ?_) (fun c_167 => absurd (show q_snd σ i = 1 by omega) c_167)
                refine lv_iinc (v := nI (i + 1)) (lv' := [(12, .int (nI (i + 1))), (13, .int (nI (s_sa σ i))), (0, .ref x0), (1, .int y), (2, .int z), (3, .ref (la 0)), (4, .ref (la 1)), (5, .ref (la 2)), (6, .ref (la 3)), (7, .ref (la 4)), (8, .ref (la 5)), (9, .ref (la 6)), (10, .ref (la 7)), (11, .int (nI (q_uns σ (i + 1)))), (14, .int (nI (q_snd σ i)))]) hx hb dL_isTold_172 hl (k := 13) rfl (nv_inc _ 1) (by decide) rfl (fun ls hl => ?_)
                refine lv_goto (tgt := 60) hx hb dL_isTold_175 (by decide) ?_
                refine W.widen (k := 120 + 2 * (i + 1)) (n := 720 + 12 * (i + 1)) (by omega) (by omega) ?_
                exact ih (i + 1) (by omega) (by omega) _ hk hP ls (lv_sub hl [2, 3, 4, 5, 6, 7, 8, 9, 10, 11, 12, 13, 0] rfl)
            refine lv_iload hx hb dL_isTold_122 (lv_at hl 12 rfl) ?_
            refine lv_iload hx hb dL_isTold_124 (lv_at hl 14 rfl) ?_
            refine nv_if_eq (tgt := 133) hx hb dL_isTold_126 (by decide) (by omega) (fun c_126 => ?_) (fun c_126 => ?_)
            · refine lv_iconst (v := nI 1) hx hb dL_isTold_133 (by decide +kernel) ?_
              refine nv_iadd hx hb dL_isTold_134 ?_
              refine lv_istore (lv' := [(11, .int (nI ((q_uns σ i) + 1))), (13, .int (nI (s_sa σ i))), (0, .ref x0), (1, .int y), (2, .int z), (3, .ref (la 0)), (4, .ref (la 1)), (5, .ref (la 2)), (6, .ref (la 3)), (7, .ref (la 4)), (8, .ref (la 5)), (9, .ref (la 6)), (10, .ref (la 7)), (12, .int (nI i)), (14, .int (nI (q_snd σ i)))]) hx hb dL_isTold_135 hl (by decide) rfl (fun ls hl => ?_)
              have e2 : q_uns σ (i + 1) = q_uns σ i + 1 := by rw [q_uns_s, show q_snd σ i = 0 by omega]
              exact hj_137 ls (by rw [e2]; exact lv_sub hl [1, 2, 3, 4, 5, 6, 7, 8, 9, 10, 11, 12, 0, 13, 14] rfl)
            · refine lv_iconst (v := nI 0) hx hb dL_isTold_129 (by decide +kernel) ?_
              refine lv_goto (tgt := 134) hx hb dL_isTold_130 (by decide) ?_
              refine nv_iadd hx hb dL_isTold_134 ?_
              refine lv_istore (lv' := [(11, .int (nI ((q_uns σ i) + 0))), (13, .int (nI (s_sa σ i))), (0, .ref x0), (1, .int y), (2, .int z), (3, .ref (la 0)), (4, .ref (la 1)), (5, .ref (la 2)), (6, .ref (la 3)), (7, .ref (la 4)), (8, .ref (la 5)), (9, .ref (la 6)), (10, .ref (la 7)), (12, .int (nI i)), (14, .int (nI (q_snd σ i)))]) hx hb dL_isTold_135 hl (by decide) rfl (fun ls hl => ?_)
              have e2 : q_uns σ (i + 1) = q_uns σ i + 0 := by rw [q_uns_s, show q_snd σ i = 1 by omega]
              exact hj_137 ls (by rw [e2]; exact lv_sub hl [1, 2, 3, 4, 5, 6, 7, 8, 9, 10, 11, 12, 0, 13, 14] rfl)
          refine lv_aload hx hb dL_isTold_80 (lv_at hl 10 rfl) ?_
          refine lv_iload hx hb dL_isTold_82 (lv_at hl 13 rfl) ?_
          refine nv_eald (q0 := 6) (t0 := 0) (s_sv σ) hx hb hK hP rfl rfl (by omega) (by decide) dL_isTold_84 ?_
          refine lv_aload_n hx hb dL_isTold_85 rfl (lv_at hl 4 rfl) ?_
          refine lv_aload hx hb dL_isTold_86 (lv_at hl 5 rfl) ?_
          refine lv_aload hx hb dL_isTold_88 (lv_at hl 6 rfl) ?_
          refine lv_aload hx hb dL_isTold_90 (lv_at hl 8 rfl) ?_
          refine lv_aload hx hb dL_isTold_92 (lv_at hl 9 rfl) ?_
          refine lv_iload hx hb dL_isTold_94 (lv_at hl 13 rfl) ?_
          refine nv_iald (q0 := 5) (t0 := 0) (l_q σ) hx hb hK hP rfl rfl (by omega) (by decide) dL_isTold_96 ?_
          refine lv_sipush (v := nI 128) hx hb dL_isTold_97 (by decide +kernel) ?_
          refine nv_irem hx hb dL_isTold_100 (by omega) (by omega) (by omega) ?_
          rw [show l_q σ i % 128 = pN (s_sp σ i) from (pN_sa hz_i.1).1]
          refine lv_iload hx hb dL_isTold_101 (lv_at hl 0 rfl) ?_
          refine lv_iload hx hb dL_isTold_103 (lv_at hl 0 rfl) ?_
          refine lv_aload hx hb dL_isTold_105 (lv_at hl 11 rfl) ?_
          refine lv_iconst (v := nI 1) hx hb dL_isTold_107 (by decide +kernel) ?_
          refine nv_ialdE (q0 := 7) (t0 := 0) (v := s_n σ) (l_g σ) (rfl) hx hb hK hP rfl rfl (by decide) (by decide) dL_isTold_108 ?_
          refine vp_callSi (va_Run.run (va_runS (As := [.ref (la 0), .ref (la 1), .ref (la 2), .ref (la 4), .int (nI (pN (s_sp σ i))), .int (nI (s_sa σ i)), .int (nI (s_sa σ i)), .int (nI (s_n σ))]) (rest := [.int (eN (s_sv σ i))]) ⟨hx, hb, hml, hown, hts⟩ (c_L_find l dD cI cR cS lo la σ hI hL.1 (s_sp σ i) (s_sa σ i) (s_sa σ i) (s_n σ) (by omega) (by omega) (by omega) (Nat.le_refl _)) (va_cwS 8 hts gL_isTold_L_find rfl rfl rfl (by decide +kernel) ⟨Nat.le_of_ble_eq_true rfl, Nat.le_of_ble_eq_true rfl⟩) (ePreS hE (kH.S hk) (hP.sub [0, 1, 2, 4] rfl)) rfl rfl hl.1 rfl (lv_room (Nat.le_of_ble_eq_true rfl)) dL_isTold_109 ⟨(by omega : 120 + 2 * i + 0 ≤ 500), (by omega : 720 + 12 * i + 0 ≤ 3000)⟩)) (fun r_109 hr_109 => ?_)
          have hr_109 : r_109 = eN (q_join σ (s_sp σ i) (s_sa σ i) (s_sa σ i)) := hr_109
          subst hr_109
          refine nv_neN (tgt := 119) hx hb dL_isTold_112 (by decide) (by omega) (by omega) (fun c_112 => ?_) (fun c_112 => ?_)
          · refine lv_iconst (v := nI 0) hx hb dL_isTold_119 (by decide +kernel) ?_
            refine lv_istore (lv' := [(14, .int (nI 0)), (13, .int (nI (s_sa σ i))), (0, .ref x0), (1, .int y), (2, .int z), (3, .ref (la 0)), (4, .ref (la 1)), (5, .ref (la 2)), (6, .ref (la 3)), (7, .ref (la 4)), (8, .ref (la 5)), (9, .ref (la 6)), (10, .ref (la 7)), (11, .int (nI (q_uns σ i))), (12, .int (nI i))]) hx hb dL_isTold_120 hl (by decide) rfl (fun ls hl => ?_)
            have e1 : q_snd σ i = 0 := by unfold q_snd; exact if_neg c_112
            exact hj_122 ls (by rw [e1]; exact lv_sub hl [1, 2, 3, 4, 5, 6, 7, 8, 9, 10, 11, 12, 13, 14, 0] rfl)
          · refine lv_iconst (v := nI 1) hx hb dL_isTold_115 (by decide +kernel) ?_
            refine lv_goto (tgt := 120) hx hb dL_isTold_116 (by decide) ?_
            refine lv_istore (lv' := [(14, .int (nI 1)), (13, .int (nI (s_sa σ i))), (0, .ref x0), (1, .int y), (2, .int z), (3, .ref (la 0)), (4, .ref (la 1)), (5, .ref (la 2)), (6, .ref (la 3)), (7, .ref (la 4)), (8, .ref (la 5)), (9, .ref (la 6)), (10, .ref (la 7)), (11, .int (nI (q_uns σ i))), (12, .int (nI i))]) hx hb dL_isTold_120 hl (by decide) rfl (fun ls hl => ?_)
            have e1 : q_snd σ i = 1 := by unfold q_snd; exact if_pos c_112
            exact hj_122 ls (by rw [e1]; exact lv_sub hl [1, 2, 3, 4, 5, 6, 7, 8, 9, 10, 11, 12, 13, 14, 0] rfl)
    exact lp_60 (s_k σ + 1) 0 (Nat.zero_le _) (by omega) _ hk hP ls (lv_sub hl [2, 3, 4, 5, 6, 7, 8, 9, 10, 11, 12, 1, 0] rfl)
  have lp_3 : ∀ (d : Nat) (k : Nat), k ≤ s_n σ → s_n σ < k + d → ∀ (H : Heap), kH s.heap H → va_P dD vwCl (lW cI la σ ++ xW cI cR cS x0 b ra sb hd ol σ) H → ∀ (ls : Array Slot), lv_has ls 21 [(0, .ref x0), (1, .int y), (2, .int z), (3, .ref (la 0)), (4, .ref (la 1)), (5, .ref (la 2)), (6, .ref (la 3)), (7, .ref (la 4)), (8, .ref (la 5)), (9, .ref (la 6)), (10, .ref (la 7)), (11, .int (nI k))] → W p l e_ (headSpec wsL_isTold ({ frames := 11, cells := 500, slots := 3000, locals := 214 })).room s m (([.ref x0, .int y, .int z, .ref (la 0), .ref (la 1), .ref (la 2), .ref (la 3), .ref (la 4), .ref (la 5), .ref (la 6), .ref (la 7)] : List Value).toArray) below meth c H [] (2 * k) (12 * k) (MQ below (lK (fun r => r = nI 1)) (([.ref x0, .int y, .int z, .ref (la 0), .ref (la 1), .ref (la 2), .ref (la 3), .ref (la 4), .ref (la 5), .ref (la 6), .ref (la 7)] : List Value).toArray) s 500 3000 (fun _ => False)) (F0 m 3 ls []) := by
    intro d
    induction d with
    | zero =>
      intro k hr1 hr2 H hk hP ls hl
      exact absurd hr2 (by omega)
    | succ d ih =>
      intro k hr1 hr2 H hk hP ls hl
      refine lv_iload hx hb dL_isTold_3 (lv_at hl 11 rfl) ?_
      refine lv_aload hx hb dL_isTold_5 (lv_at hl 10 rfl) ?_
      refine lv_iconst (v := nI 1) hx hb dL_isTold_7 (by decide +kernel) ?_
      refine nv_ialdE (q0 := 7) (t0 := 0) (v := s_n σ) (l_g σ) (rfl) hx hb hK hP rfl rfl (by decide) (by decide) dL_isTold_8 ?_
      refine nv_ge (tgt := 54) hx hb dL_isTold_9 (by decide) (by omega) (by omega) (fun c_9 => ?_) (fun c_9 => ?_)
      · refine W.widen (k := 120) (n := 720) (by omega) (by omega) ?_
        exact hj_54 _ hk hP ls (lv_sub hl [0, 1, 2, 3, 4, 5, 6, 7, 8, 9, 10] rfl)
      · have hz_k := i_row k (by omega)
        refine lv_aload_n hx hb dL_isTold_12 rfl (lv_at hl 0 rfl) ?_
        refine lv_iload hx hb dL_isTold_13 (lv_at hl 11 rfl) ?_
        refine nx_callKv (v := nI (s_vl σ k)) (vx_runSW (As := [.ref x0, .int (nI k)]) (rest := []) ⟨hx, hb, hml, hown, hts⟩ (c_L_value l dD cI cR cS lo hfl x0 b ra sb hd ol σ hI hX (nI k)) (vx_cwSW 2 hts gL_isTold_L_value rfl rfl rfl (by decide +kernel) ⟨Nat.le_of_ble_eq_true rfl, Nat.le_of_ble_eq_true rfl⟩) (ePreS hE (kH.S hk) (vP_app2 hP)) rfl rfl hl.1 rfl (lv_room (Nat.le_of_ble_eq_true rfl)) dL_isTold_15 ⟨(by omega : 2 * k + 1 ≤ 500), (by omega : 12 * k + 6 ≤ 3000)⟩) (fun r h => (hv_l (ri_n (show k < s_n σ by omega) (by omega)) h).trans (by rw [cl_nI (by omega)])) (fun H1 hk_15 => ?_)
        have hP := hk_15.P hP
        have hk := hk.tr hk_15
        refine lv_aload hx hb dL_isTold_18 (lv_at hl 6 rfl) ?_
        refine lv_iload hx hb dL_isTold_20 (lv_at hl 11 rfl) ?_
        refine nv_iald (q0 := 3) (t0 := 0) (s_vl σ) hx hb hK hP rfl rfl (by omega) (by decide) dL_isTold_22 ?_
        refine lv_icmp_ne (tgt := 46) hx hb dL_isTold_23 (by decide) (fun c_23 => absurd rfl c_23) (fun c_23 => ?_)
        refine lv_aload_n hx hb dL_isTold_26 rfl (lv_at hl 0 rfl) ?_
        refine lv_iload hx hb dL_isTold_27 (lv_at hl 11 rfl) ?_
        refine nx_callKv (v := nI ((s_ar σ k) - (s_ev σ k))) (vx_runSW (As := [.ref x0, .int (nI k)]) (rest := []) ⟨hx, hb, hml, hown, hts⟩ (c_L_late l dD cI cR cS lo hfl x0 b ra sb hd ol σ hI hX (nI k)) (vx_cwSW 2 hts gL_isTold_L_late rfl rfl rfl (by decide +kernel) ⟨Nat.le_of_ble_eq_true rfl, Nat.le_of_ble_eq_true rfl⟩) (ePreS hE (kH.S hk) (vP_app2 hP)) rfl rfl hl.1 rfl (lv_room (Nat.le_of_ble_eq_true rfl)) dL_isTold_29 ⟨(by omega : 2 * k + 1 + 1 ≤ 500), (by omega : 12 * k + 6 + 6 ≤ 3000)⟩) (fun r h => (hv_l (ri_n (show k < s_n σ by omega) (by omega)) h).trans (by rw [cl_nI (by omega)])) (fun H1 hk_29 => ?_)
        have hP := hk_29.P hP
        have hk := hk.tr hk_29
        refine lv_aload hx hb dL_isTold_32 (lv_at hl 5 rfl) ?_
        refine lv_iload hx hb dL_isTold_34 (lv_at hl 11 rfl) ?_
        refine nv_iald (q0 := 2) (t0 := 0) (s_ar σ) hx hb hK hP rfl rfl (by omega) (by decide) dL_isTold_36 ?_
        refine lv_aload hx hb dL_isTold_37 (lv_at hl 4 rfl) ?_
        refine lv_iload hx hb dL_isTold_39 (lv_at hl 11 rfl) ?_
        refine nv_iald (q0 := 1) (t0 := 0) (s_ev σ) hx hb hK hP rfl rfl (by omega) (by decide) dL_isTold_41 ?_
        refine nv_isub hx hb dL_isTold_42 (by omega) ?_
        refine lv_icmp_eq (tgt := 48) hx hb dL_isTold_43 (by decide) (fun c_43 => ?_) (fun c_43 => absurd rfl c_43)
        refine lv_iinc (v := nI (k + 1)) (lv' := [(11, .int (nI (k + 1))), (0, .ref x0), (1, .int y), (2, .int z), (3, .ref (la 0)), (4, .ref (la 1)), (5, .ref (la 2)), (6, .ref (la 3)), (7, .ref (la 4)), (8, .ref (la 5)), (9, .ref (la 6)), (10, .ref (la 7))]) hx hb dL_isTold_48 hl (k := 11) rfl (nv_inc _ 1) (by decide) rfl (fun ls hl => ?_)
        refine lv_goto (tgt := 3) hx hb dL_isTold_51 (by decide) ?_
        refine W.widen (k := 2 * (k + 1)) (n := 12 * (k + 1)) (by omega) (by omega) ?_
        exact ih (k + 1) (by omega) (by omega) _ hk hP ls (lv_sub hl [1, 2, 3, 4, 5, 6, 7, 8, 9, 10, 11, 0] rfl)
  exact lp_3 (s_n σ + 1) 0 (Nat.zero_le _) (by omega) _ hk hP ls (lv_sub hl [1, 2, 3, 4, 5, 6, 7, 8, 9, 10, 11, 0] rfl)
