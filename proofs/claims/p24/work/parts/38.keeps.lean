/-! the law's keeps (laid by wip/p24/gen/keeps24.py) -/
/-- what keeps may write -/
abbrev kA (cI cR cS : ClassId) (la : Nat → Nat) (x0 : Nat) (b ra sb hd ol : Nat → Nat) (σ : St) (sz : Nat) : Nat → Prop := va_A (lW cI la σ ++ xW cI cR cS x0 b ra sb hd ol σ) sz
/-- what it leaves -/
abbrev kQ (dD : va_G) (cI cR cS : ClassId) (la : Nat → Nat) (x0 : Nat) (b : Nat → Nat) (A : Nat → Prop) : Array Value → State → Outcome → State → Prop := va_Qi (fun (r : Int32) (u : XV) => r = nI 1 ∧ vOk u) (fun u U9 => va_P dD vwCl (lxW cI cR cS la x0 b u) U9.heap ∧ va_D A (lxW cI cR cS la x0 b u)) A
theorem qt_ar (σ : St) (m : Nat) : s_ar (q_take σ m) = s_ar σ := qt_k σ 7 (by decide) (by decide) m
theorem qt_vl (σ : St) (m : Nat) : s_vl (q_take σ m) = s_vl σ := qt_k σ 8 (by decide) (by decide) m
theorem qt_lt (σ : St) (m : Nat) : s_lt (q_take σ m) = s_lt σ := qt_k σ 4 (by decide) (by decide) m
theorem qt_sv (σ : St) (m : Nat) : s_sv (q_take σ m) = s_sv σ := qt_k σ 12 (by decide) (by decide) m
section NVK4
variable {p : Program} {l : Launch} {e : Env} {R : Room} {s : State} {m : MethodId} {args : Array Value} {below : List Frame} {meth : Method} {c : Code} {H : Heap} {locs : List Loc} {cells slots : Nat} {Q : State → Prop}
variable {cc : ByteArray} {pc : Nat} {ls : Array Slot} {rest : List Value}
theorem nv_if_geT {x : Nat} {off : Int} {tgt : Nat} (hx : p.tables.exec = Jvm.exec) (hb : c.code = cc) (hdg : decode cc pc = .ok (.ifCond .ge off, 3)) (ht : (pc : Int) + off = (tgt : Int)) (h1 : x < 2 ^ 31)
    (kt : W p l e R s m args below meth c H locs cells slots Q (F0 m tgt ls rest)) : W p l e R s m args below meth c H locs cells slots Q (F0 m pc ls (.int (nI x) :: rest)) := lv_if_ge hx hb hdg ht (fun _ => kt) (fun h => absurd (nI_pos' h1) h)
end NVK4

set_option maxHeartbeats 4000000 in
set_option maxRecDepth 100000 in
theorem c_L_keeps (l : Launch) (dD : va_G) (cI cR cS : ClassId) (lo : Nat) (hfl : l.stackTraces = false) (sz : Nat) (hlo : lo ≤ sz) (la : Nat → Nat) (x0 : Nat) (b ra sb hd ol : Nat → Nat) (σ : St) (hI : sI σ) (hX : xI σ hd ol) (hJ : xJ σ hd ol) (hL : lI σ) (ac : Nat) (hac : ac < 18) (y z : Int32) : Met l yL_keeps wsL_keeps ({ frames := 10, cells := 60, slots := 400, locals := 176 }) (ePc dD cI cR cS lo [.ref x0, .int (nI ac), .int y, .int z, .ref (la 0), .ref (la 1), .ref (la 2), .ref (la 3), .ref (la 4), .ref (la 5), .ref (la 6), .ref (la 7)] (fun H => H.size = sz ∧ va_P dD vwCl (lW cI la σ ++ xW cI cR cS x0 b ra sb hd ol σ) H ∧ va_D (fun q => lo ≤ q) (lW cI la σ ++ xW cI cR cS x0 b ra sb hd ol σ))) (kQ dD cI cR cS la x0 b (kA cI cR cS la x0 b ra sb hd ol σ sz)) 60 400 (kA cI cR cS la x0 b ra sb hd ol σ sz) := by
  refine Met.ofW (cc := cL_keeps) (maxL := 17) (ret := (some .boolean)) (by decide) rfl ?_
  intro p e_ s m args below meth c s₁ B hml hv
  obtain ⟨rfl, hE, hsz, hP, hD0⟩ := hv
  have hx := B.exec
  have hb := B.bytes
  have hr := B.returns
  have hts := atoms_spec (ws := wsL_keeps) B.pre
  have hown : s.vm.findClass RL = some m.cls := findClass_of_methodNamed B.named
  have hlocks := B.notSynchronized
  have hK := hE.1.1
  obtain ⟨i_now, i_n, i_tk, i_k, i_lt, i_row, i_cp, i_srv⟩ := id hI
  have hz_e := hL.1
  have hz_e2 := hL.2.1
  subst hsz
  have hD := hD0.self (sz := s.heap.size)
  have hAlo : ∀ q, (kA cI cR cS la x0 b ra sb hd ol σ s.heap.size) q → lo ≤ q := eA_lo hD0 hlo
  have hA : ∀ q : Nat, s.heap.size ≤ q → (kA cI cR cS la x0 b ra sb hd ol σ s.heap.size) q := fun q h => Or.inr h
  have hS : va_S (kA cI cR cS la x0 b ra sb hd ol σ s.heap.size) s.heap s.heap [] := va_S.rf
  have hP : va_P dD vwCl (lW cI la σ ++ xW cI cR cS x0 b ra sb hd ol σ) s.heap := hP
  have hD : va_D (kA cI cR cS la x0 b ra sb hd ol σ s.heap.size) (lW cI la σ ++ xW cI cR cS x0 b ra sb hd ol σ) := hD
  have hl := lv_entry ([.ref x0, .int (nI ac), .int y, .int z, .ref (la 0), .ref (la 1), .ref (la 2), .ref (la 3), .ref (la 4), .ref (la 5), .ref (la 6), .ref (la 7)]) (n := 17) (Nat.le_of_ble_eq_true rfl)
  rw [lg_entry_eq]
  generalize (lg_sl ([.ref x0, .int (nI ac), .int y, .int z, .ref (la 0), .ref (la 1), .ref (la 2), .ref (la 3), .ref (la 4), .ref (la 5), .ref (la 6), .ref (la 7)]) ++ List.replicate (17 - (lg_sl ([.ref x0, .int (nI ac), .int y, .int z, .ref (la 0), .ref (la 1), .ref (la 2), .ref (la 3), .ref (la 4), .ref (la 5), .ref (la 6), .ref (la 7)])).length) Slot.unset).toArray = ls at hl ⊢
  have hl : lv_has ls 17 [(0, .ref x0), (1, .int (nI ac)), (2, .int y), (3, .int z), (4, .ref (la 0)), (5, .ref (la 1)), (6, .ref (la 2)), (7, .ref (la 3)), (8, .ref (la 4)), (9, .ref (la 5)), (10, .ref (la 6)), (11, .ref (la 7))] := hl
  have hj_27 : ∀ (f : Nat) (_ : f < 6) (H : Heap) (locs : List Loc), va_P dD vwCl (lW cI la σ ++ xW cI cR cS x0 b ra sb hd ol σ) H → va_D (kA cI cR cS la x0 b ra sb hd ol σ s.heap.size) (lW cI la σ ++ xW cI cR cS x0 b ra sb hd ol σ) → va_S (kA cI cR cS la x0 b ra sb hd ol σ s.heap.size) s.heap H locs → ∀ (ls : Array Slot), lv_has ls 17 [(0, .ref x0), (1, .int (nI ac)), (2, .int y), (3, .int z), (4, .ref (la 0)), (5, .ref (la 1)), (6, .ref (la 2)), (7, .ref (la 3)), (8, .ref (la 4)), (9, .ref (la 5)), (10, .ref (la 6)), (11, .ref (la 7)), (12, .int (nI f))] → W p l e_ (headSpec wsL_keeps ({ frames := 10, cells := 60, slots := 400, locals := 176 })).room s m (([.ref x0, .int (nI ac), .int y, .int z, .ref (la 0), .ref (la 1), .ref (la 2), .ref (la 3), .ref (la 4), .ref (la 5), .ref (la 6), .ref (la 7)] : List Value).toArray) below meth c H locs (0) (0) (MQ below (kQ dD cI cR cS la x0 b (kA cI cR cS la x0 b ra sb hd ol σ s.heap.size)) (([.ref x0, .int (nI ac), .int y, .int z, .ref (la 0), .ref (la 1), .ref (la 2), .ref (la 3), .ref (la 4), .ref (la 5), .ref (la 6), .ref (la 7)] : List Value).toArray) s 60 400 (kA cI cR cS la x0 b ra sb hd ol σ s.heap.size)) (F0 m 27 ls []) := by
    intro f hf H locs hP hD hS ls hl
    have hj_57 : ∀ (e : Nat) (_ : e < 10) (H : Heap) (locs : List Loc), va_P dD vwCl (lW cI la σ ++ xW cI cR cS x0 b ra sb hd ol σ) H → va_D (kA cI cR cS la x0 b ra sb hd ol σ s.heap.size) (lW cI la σ ++ xW cI cR cS x0 b ra sb hd ol σ) → va_S (kA cI cR cS la x0 b ra sb hd ol σ s.heap.size) s.heap H locs → ∀ (ls : Array Slot), lv_has ls 17 [(0, .ref x0), (1, .int (nI ac)), (2, .int y), (3, .int z), (4, .ref (la 0)), (5, .ref (la 1)), (6, .ref (la 2)), (7, .ref (la 3)), (8, .ref (la 4)), (9, .ref (la 5)), (10, .ref (la 6)), (11, .ref (la 7)), (12, .int (nI f)), (13, .int (nI e))] → W p l e_ (headSpec wsL_keeps ({ frames := 10, cells := 60, slots := 400, locals := 176 })).room s m (([.ref x0, .int (nI ac), .int y, .int z, .ref (la 0), .ref (la 1), .ref (la 2), .ref (la 3), .ref (la 4), .ref (la 5), .ref (la 6), .ref (la 7)] : List Value).toArray) below meth c H locs (0) (0) (MQ below (kQ dD cI cR cS la x0 b (kA cI cR cS la x0 b ra sb hd ol σ s.heap.size)) (([.ref x0, .int (nI ac), .int y, .int z, .ref (la 0), .ref (la 1), .ref (la 2), .ref (la 3), .ref (la 4), .ref (la 5), .ref (la 6), .ref (la 7)] : List Value).toArray) s 60 400 (kA cI cR cS la x0 b ra sb hd ol σ s.heap.size)) (F0 m 57 ls []) := by
      intro e he H locs hP hD hS ls hl
      refine lv_iload hx hb dL_keeps_57 (lv_at hl 12 rfl) ?_
      refine lv_bipush (v := nI 8) hx hb dL_keeps_59 (by decide +kernel) ?_
      refine lv_iload hx hb dL_keeps_61 (lv_at hl 13 rfl) ?_
      refine nv_imul hx hb dL_keeps_63 ?_
      refine nv_iadd hx hb dL_keeps_64 ?_
      refine lv_istore (lv' := [(14, .int (nI (f + (8 * e)))), (0, .ref x0), (1, .int (nI ac)), (2, .int y), (3, .int z), (4, .ref (la 0)), (5, .ref (la 1)), (6, .ref (la 2)), (7, .ref (la 3)), (8, .ref (la 4)), (9, .ref (la 5)), (10, .ref (la 6)), (11, .ref (la 7)), (12, .int (nI f)), (13, .int (nI e))]) hx hb dL_keeps_65 hl (by decide) rfl (fun ls hl => ?_)
      rw [show f + 8 * e = pN (10 * f + e) from (pN_of hf he).symm] at hl
      have hz_p := pN_lt (q := 10 * f + e) (by omega)
      refine lv_iload_n hx hb dL_keeps_67 rfl (lv_at hl 2 rfl) ?_
      refine lv_bipush (v := nI 8) hx hb dL_keeps_68 (by decide +kernel) ?_
      refine nv_ge (tgt := 388) hx hb dL_keeps_70 (by decide) (by omega) (by omega) (fun c_70 => ?_) (fun c_70 => ?_)
      · refine lv_iload_n hx hb dL_keeps_388 rfl (lv_at hl 2 rfl) ?_
        refine lv_bipush (v := nI 11) hx hb dL_keeps_389 (by decide +kernel) ?_
        refine nv_ge (tgt := 529) hx hb dL_keeps_391 (by decide) (by omega) (by omega) (fun c_391 => ?_) (fun c_391 => ?_)
        · refine lv_iload_n hx hb dL_keeps_529 rfl (lv_at hl 2 rfl) ?_
          refine lv_bipush (v := nI 11) hx hb dL_keeps_530 (by decide +kernel) ?_
          refine nv_ne (tgt := 636) hx hb dL_keeps_532 (by decide) (by omega) (by omega) (fun c_532 => ?_) (fun c_532 => ?_)
          · refine lv_iload_n hx hb dL_keeps_636 rfl (lv_at hl 2 rfl) ?_
            refine lv_bipush (v := nI 15) hx hb dL_keeps_637 (by decide +kernel) ?_
            refine nv_ge (tgt := 742) hx hb dL_keeps_639 (by decide) (by omega) (by omega) (fun c_639 => ?_) (fun c_639 => ?_)
            · refine lv_aload_n hx hb dL_keeps_742 rfl (lv_at hl 1 rfl) ?_
              refine lv_iload hx hb dL_keeps_743 (lv_at hl 13 rfl) ?_
              refine lv_bipush (v := nI 10) hx hb dL_keeps_745 (by decide +kernel) ?_
              have hAH : ∀ q : Nat, H.size ≤ q → (kA cI cR cS la x0 b ra sb hd ol σ s.heap.size) q := fun q h => hA q (Nat.le_trans hS.1 h)
              have hFc := fr_freeR (w1 := xW cI cR cS x0 b ra sb hd ol σ) (w2 := lW cI la σ) hD hAH
              refine va_calli (vx_runSW (As := [.ref x0, .int (nI f), .int (nI 10)]) (rest := []) ⟨hx, hb, hml, hown, hts⟩ (c_L_serve_no l dD cI cR cS lo hfl H.size (Nat.le_trans hlo hS.1) x0 b ra sb hd ol σ hI hX hJ (nI f) (nI 10) (fun z => absurd z.2 (rg_x (by omega) (by omega) (by decide) (by decide)))) (vx_cwSW 3 hts gL_keeps_L_serve rfl rfl rfl (by decide +kernel) ⟨Nat.le_of_ble_eq_true rfl, Nat.le_of_ble_eq_true rfl⟩) (ePreS hE (hS.mono hAlo) ⟨rfl, vP_app2 hP, vD_mono (vD_app2 hD) hAlo⟩) rfl rfl hl.1 rfl (lv_room (Nat.le_of_ble_eq_true rfl)) dL_keeps_747 ⟨(by omega : 0 + 3 ≤ 60), (by omega : 0 + 18 ≤ 400)⟩) hS (fun q _ h => h.elim) hFc (fun r_ u_ t_ H1 locs ht_ hvm_ hw_ hB_ hz_ hk_ hS => ?_)
              subst hw_
              have hP := vP_kept hP (fun q h => hk_ q h (fun z => z))
              refine lv_bipush (v := (-72)) hx hb dL_keeps_750 (by decide +kernel) ?_
              refine lv_icmp_ne (tgt := 767) hx hb dL_keeps_752 (by decide) (fun c_752 => absurd rfl c_752) (fun c_752 => ?_)
              refine lv_aload_n hx hb dL_keeps_755 rfl (lv_at hl 1 rfl) ?_
              refine lv_iconst (v := (-1)) hx hb dL_keeps_756 (by decide +kernel) ?_
              refine lv_iload hx hb dL_keeps_757 (lv_at hl 14 rfl) ?_
              have hAH : ∀ q : Nat, H1.size ≤ q → (kA cI cR cS la x0 b ra sb hd ol σ s.heap.size) q := fun q h => hA q (Nat.le_trans hS.1 h)
              have hFc := fr_freeR (w1 := xW cI cR cS x0 b ra sb hd ol σ) (w2 := lW cI la σ) hD hAH
              refine va_calli (vx_runSW (As := [.ref x0, .int ((-1)), .int (nI e)]) (rest := []) ⟨hx, hb, hml, hown, hts⟩ (c_L_serve_no l dD cI cR cS lo hfl H1.size (Nat.le_trans hlo hS.1) x0 b ra sb hd ol σ hI hX hJ ((-1)) (nI e) (fun z => absurd z.1 (rg_m1 (by decide)))) (vx_cwSW 3 hts gL_keeps_L_serve rfl rfl rfl (by decide +kernel) ⟨Nat.le_of_ble_eq_true rfl, Nat.le_of_ble_eq_true rfl⟩) (ePreS hE (hS.mono hAlo) ⟨rfl, vP_app2 hP, vD_mono (vD_app2 hD) hAlo⟩) rfl rfl hl.1 rfl (lv_room (Nat.le_of_ble_eq_true rfl)) dL_keeps_759 ⟨(by omega : 0 + 3 + 3 ≤ 60), (by omega : 0 + 18 + 18 ≤ 400)⟩) hS (fun q _ h => h.elim) hFc (fun r_ u_ t_ H1 locs ht_ hvm_ hw_ hB_ hz_ hk_ hS => ?_)
              subst hw_
              have hP := vP_kept hP (fun q h => hk_ q h (fun z => z))
              refine lv_bipush (v := (-72)) hx hb dL_keeps_762 (by decide +kernel) ?_
              refine lv_icmp_eq (tgt := 769) hx hb dL_keeps_764 (by decide) (fun c_764 => ?_) (fun c_764 => absurd rfl c_764)
              refine lv_aload hx hb dL_keeps_769 (lv_at hl 12 rfl) ?_
              refine lv_iconst (v := nI 3) hx hb dL_keeps_771 (by decide +kernel) ?_
              refine nv_ialdE (q0 := 7) (t0 := 0) (v := s_k σ) (l_g σ) (rfl) hx hb hK hP rfl rfl (by decide) (by decide) dL_keeps_772 ?_
              refine lv_bipush (v := nI 60) hx hb dL_keeps_773 (by decide +kernel) ?_
              refine nv_ne (tgt := 793) hx hb dL_keeps_775 (by decide) (by omega) (by omega) (fun c_775 => ?_) (fun c_775 => ?_)
              · have hk60 : s_k σ < 60 := by omega
                refine lv_aload hx hb dL_keeps_793 (lv_at hl 10 rfl) ?_
                refine lv_aload hx hb dL_keeps_795 (lv_at hl 12 rfl) ?_
                refine lv_iconst (v := nI 3) hx hb dL_keeps_797 (by decide +kernel) ?_
                refine nv_ialdE (q0 := 7) (t0 := 0) (v := s_k σ) (l_g σ) (rfl) hx hb hK hP rfl rfl (by decide) (by decide) dL_keeps_798 ?_
                refine lv_iload hx hb dL_keeps_799 (lv_at hl 0 rfl) ?_
                refine lv_sipush (v := nI 128) hx hb dL_keeps_801 (by decide +kernel) ?_
                refine lv_aload hx hb dL_keeps_804 (lv_at hl 12 rfl) ?_
                refine lv_iconst (v := nI 0) hx hb dL_keeps_806 (by decide +kernel) ?_
                refine nv_ialdE (q0 := 7) (t0 := 0) (v := s_now σ) (l_g σ) (rfl) hx hb hK hP rfl rfl (by decide) (by decide) dL_keeps_807 ?_
                refine nv_imul hx hb dL_keeps_808 ?_
                refine nv_iadd hx hb dL_keeps_809 ?_
                refine nv_iast (q0 := 5) (t0 := 0) (l_q σ) hx hb hK hP hD hS rfl rfl (by omega) (by decide) dL_keeps_810 (fun H locs hP hD hS => ?_)
                have hP : va_P dD vwCl ([(la 0, .inl (cI, 60, .inl (fun j => nI (l_p σ j)))), (la 1, .inl (cI, 60, .inl (fun j => nI (s_ev σ j)))), (la 2, .inl (cI, 60, .inl (fun j => nI (s_ar σ j)))), (la 3, .inl (cI, 60, .inl (fun j => nI (s_vl σ j)))), (la 4, .inl (cI, 6, .inl (fun j => nI (s_lt σ j)))), (la 5, .inl (cI, 60, .inl (fun j => nI ((uN (l_q σ) (s_k σ) ((pN (10 * f + e)) + (128 * (s_now σ)))) j)))), (la 6, .inl (cI, 60, .inl (fun j => eN (s_sv σ j)))), (la 7, .inl (cI, 4, .inl (fun j => nI (l_g σ j))))] ++ xW cI cR cS x0 b ra sb hd ol σ) H := hP
                have hD : va_D (kA cI cR cS la x0 b ra sb hd ol σ s.heap.size) ([(la 0, .inl (cI, 60, .inl (fun j => nI (l_p σ j)))), (la 1, .inl (cI, 60, .inl (fun j => nI (s_ev σ j)))), (la 2, .inl (cI, 60, .inl (fun j => nI (s_ar σ j)))), (la 3, .inl (cI, 60, .inl (fun j => nI (s_vl σ j)))), (la 4, .inl (cI, 6, .inl (fun j => nI (s_lt σ j)))), (la 5, .inl (cI, 60, .inl (fun j => nI ((uN (l_q σ) (s_k σ) ((pN (10 * f + e)) + (128 * (s_now σ)))) j)))), (la 6, .inl (cI, 60, .inl (fun j => eN (s_sv σ j)))), (la 7, .inl (cI, 4, .inl (fun j => nI (l_g σ j))))] ++ xW cI cR cS x0 b ra sb hd ol σ) := hD
                refine lv_aload hx hb dL_keeps_811 (lv_at hl 11 rfl) ?_
                refine lv_aload hx hb dL_keeps_813 (lv_at hl 12 rfl) ?_
                refine lv_iconst (v := nI 3) hx hb dL_keeps_815 (by decide +kernel) ?_
                refine nv_ialdE (q0 := 7) (t0 := 0) (v := s_k σ) (l_g σ) (rfl) hx hb hK hP rfl rfl (by decide) (by decide) dL_keeps_816 ?_
                refine lv_aload hx hb dL_keeps_817 (lv_at hl 5 rfl) ?_
                refine lv_aload hx hb dL_keeps_819 (lv_at hl 6 rfl) ?_
                refine lv_aload hx hb dL_keeps_821 (lv_at hl 7 rfl) ?_
                refine lv_aload hx hb dL_keeps_823 (lv_at hl 9 rfl) ?_
                refine lv_aload hx hb dL_keeps_825 (lv_at hl 12 rfl) ?_
                refine lv_iload hx hb dL_keeps_827 (lv_at hl 0 rfl) ?_
                refine vp_callSi (va_Run.run (va_runS (As := [.ref (la 0), .ref (la 1), .ref (la 2), .ref (la 4), .ref (la 7), .int (nI (pN (10 * f + e)))]) (rest := [.int (nI (s_k σ)), .ref (la 6)]) ⟨hx, hb, hml, hown, hts⟩ (c_L_copied l dD cI cR cS lo la σ hI hL (10 * f + e) (by omega)) (va_cwS 6 hts gL_keeps_L_copied rfl rfl rfl (by decide +kernel) ⟨Nat.le_of_ble_eq_true rfl, Nat.le_of_ble_eq_true rfl⟩) (ePreS hE (hS.mono hAlo) (hP.sub [0, 1, 2, 4, 7] rfl)) rfl rfl hl.1 rfl (lv_room (Nat.le_of_ble_eq_true rfl)) dL_keeps_829 ⟨(by omega : 0 + 3 + 3 + 0 ≤ 60), (by omega : 0 + 18 + 18 + 0 ≤ 400)⟩)) (fun r_829 hr_829 => ?_)
                have hr_829 : r_829 = eN (q_fr σ (s_cp σ (10 * f + e)) (s_now σ)) := hr_829
                subst hr_829
                refine nv_east (q0 := 6) (t0 := 0) (s_sv σ) hx hb hK hP hD hS rfl rfl (by omega) (by decide) dL_keeps_832 (fun H locs hP hD hS => ?_)
                have hP : va_P dD vwCl ([(la 0, .inl (cI, 60, .inl (fun j => nI (l_p σ j)))), (la 1, .inl (cI, 60, .inl (fun j => nI (s_ev σ j)))), (la 2, .inl (cI, 60, .inl (fun j => nI (s_ar σ j)))), (la 3, .inl (cI, 60, .inl (fun j => nI (s_vl σ j)))), (la 4, .inl (cI, 6, .inl (fun j => nI (s_lt σ j)))), (la 5, .inl (cI, 60, .inl (fun j => nI ((uN (l_q σ) (s_k σ) ((pN (10 * f + e)) + (128 * (s_now σ)))) j)))), (la 6, .inl (cI, 60, .inl (fun j => eN ((uN (s_sv σ) (s_k σ) (q_fr σ (s_cp σ (10 * f + e)) (s_now σ))) j)))), (la 7, .inl (cI, 4, .inl (fun j => nI (l_g σ j))))] ++ xW cI cR cS x0 b ra sb hd ol σ) H := hP
                have hD : va_D (kA cI cR cS la x0 b ra sb hd ol σ s.heap.size) ([(la 0, .inl (cI, 60, .inl (fun j => nI (l_p σ j)))), (la 1, .inl (cI, 60, .inl (fun j => nI (s_ev σ j)))), (la 2, .inl (cI, 60, .inl (fun j => nI (s_ar σ j)))), (la 3, .inl (cI, 60, .inl (fun j => nI (s_vl σ j)))), (la 4, .inl (cI, 6, .inl (fun j => nI (s_lt σ j)))), (la 5, .inl (cI, 60, .inl (fun j => nI ((uN (l_q σ) (s_k σ) ((pN (10 * f + e)) + (128 * (s_now σ)))) j)))), (la 6, .inl (cI, 60, .inl (fun j => eN ((uN (s_sv σ) (s_k σ) (q_fr σ (s_cp σ (10 * f + e)) (s_now σ))) j)))), (la 7, .inl (cI, 4, .inl (fun j => nI (l_g σ j))))] ++ xW cI cR cS x0 b ra sb hd ol σ) := hD
                refine lv_aload hx hb dL_keeps_833 (lv_at hl 12 rfl) ?_
                refine lv_iconst (v := nI 3) hx hb dL_keeps_835 (by decide +kernel) ?_
                refine lv_dup2_11 hx hb dL_keeps_836 rfl rfl ?_
                refine nv_ialdE (q0 := 7) (t0 := 0) (v := s_k σ) (l_g σ) (rfl) hx hb hK hP rfl rfl (by decide) (by decide) dL_keeps_837 ?_
                refine lv_iconst (v := nI 1) hx hb dL_keeps_838 (by decide +kernel) ?_
                refine nv_iadd hx hb dL_keeps_839 ?_
                refine nv_iast (q0 := 7) (t0 := 0) (l_g σ) hx hb hK hP hD hS rfl rfl (by omega) (by decide) dL_keeps_840 (fun H locs hP hD hS => ?_)
                have hP : va_P dD vwCl ([(la 0, .inl (cI, 60, .inl (fun j => nI (l_p σ j)))), (la 1, .inl (cI, 60, .inl (fun j => nI (s_ev σ j)))), (la 2, .inl (cI, 60, .inl (fun j => nI (s_ar σ j)))), (la 3, .inl (cI, 60, .inl (fun j => nI (s_vl σ j)))), (la 4, .inl (cI, 6, .inl (fun j => nI (s_lt σ j)))), (la 5, .inl (cI, 60, .inl (fun j => nI ((uN (l_q σ) (s_k σ) ((pN (10 * f + e)) + (128 * (s_now σ)))) j)))), (la 6, .inl (cI, 60, .inl (fun j => eN ((uN (s_sv σ) (s_k σ) (q_fr σ (s_cp σ (10 * f + e)) (s_now σ))) j)))), (la 7, .inl (cI, 4, .inl (fun j => nI ((uN (l_g σ) 3 ((s_k σ) + 1)) j))))] ++ xW cI cR cS x0 b ra sb hd ol σ) H := hP
                have hD : va_D (kA cI cR cS la x0 b ra sb hd ol σ s.heap.size) ([(la 0, .inl (cI, 60, .inl (fun j => nI (l_p σ j)))), (la 1, .inl (cI, 60, .inl (fun j => nI (s_ev σ j)))), (la 2, .inl (cI, 60, .inl (fun j => nI (s_ar σ j)))), (la 3, .inl (cI, 60, .inl (fun j => nI (s_vl σ j)))), (la 4, .inl (cI, 6, .inl (fun j => nI (s_lt σ j)))), (la 5, .inl (cI, 60, .inl (fun j => nI ((uN (l_q σ) (s_k σ) ((pN (10 * f + e)) + (128 * (s_now σ)))) j)))), (la 6, .inl (cI, 60, .inl (fun j => eN ((uN (s_sv σ) (s_k σ) (q_fr σ (s_cp σ (10 * f + e)) (s_now σ))) j)))), (la 7, .inl (cI, 4, .inl (fun j => nI ((uN (l_g σ) 3 ((s_k σ) + 1)) j))))] ++ xW cI cR cS x0 b ra sb hd ol σ) := hD
                refine lv_aload_n hx hb dL_keeps_841 rfl (lv_at hl 1 rfl) ?_
                refine lv_iload hx hb dL_keeps_842 (lv_at hl 13 rfl) ?_
                refine lv_iload hx hb dL_keeps_844 (lv_at hl 14 rfl) ?_
                have hAH : ∀ q : Nat, H.size ≤ q → (kA cI cR cS la x0 b ra sb hd ol σ s.heap.size) q := fun q h => hA q (Nat.le_trans hS.1 h)
                have hFc := fr_freeR (w1 := xW cI cR cS x0 b ra sb hd ol σ) (w2 := [(la 0, .inl (cI, 60, .inl (fun j => nI (l_p σ j)))), (la 1, .inl (cI, 60, .inl (fun j => nI (s_ev σ j)))), (la 2, .inl (cI, 60, .inl (fun j => nI (s_ar σ j)))), (la 3, .inl (cI, 60, .inl (fun j => nI (s_vl σ j)))), (la 4, .inl (cI, 6, .inl (fun j => nI (s_lt σ j)))), (la 5, .inl (cI, 60, .inl (fun j => nI ((uN (l_q σ) (s_k σ) ((pN (10 * f + e)) + (128 * (s_now σ)))) j)))), (la 6, .inl (cI, 60, .inl (fun j => eN ((uN (s_sv σ) (s_k σ) (q_fr σ (s_cp σ (10 * f + e)) (s_now σ))) j)))), (la 7, .inl (cI, 4, .inl (fun j => nI ((uN (l_g σ) 3 ((s_k σ) + 1)) j))))]) hD hAH
                refine va_calli (vx_runSW (As := [.ref x0, .int (nI f), .int (nI e)]) (rest := []) ⟨hx, hb, hml, hown, hts⟩ (c_L_serve_ok l dD cI cR cS lo hfl H.size (Nat.le_trans hlo hS.1) x0 b ra sb hd ol σ hI hX hJ (nI f) (nI e) (⟨okP_n hf he, by omega⟩)) (vx_cwSW 3 hts gL_keeps_L_serve rfl rfl rfl (by decide +kernel) ⟨Nat.le_of_ble_eq_true rfl, Nat.le_of_ble_eq_true rfl⟩) (ePreS hE (hS.mono hAlo) ⟨rfl, vP_app2 hP, vD_mono (vD_app2 hD) hAlo⟩) rfl rfl hl.1 rfl (lv_room (Nat.le_of_ble_eq_true rfl)) dL_keeps_846 ⟨(by omega : 0 + 3 + 3 + 3 ≤ 60), (by omega : 0 + 18 + 18 + 18 ≤ 400)⟩) hS (fun q _ h => hFc q h) hFc (fun r_ u_ t_ H1 locs ht_ hvm_ hw_ hB_ hz_ hk_ hS => ?_)
                obtain ⟨ra', sb', hd', ol'⟩ := u_
                have eG : g_serve σ (plN (nI f) (nI e)) = g_serve σ (10 * f + e) := by rw [plN_n hf he]
                rw [eG] at hw_ hB_
                obtain ⟨hr_, hI', hX', hJ'⟩ := hw_
                have hr_ : r_ = eN (q_fr σ (s_cp σ (10 * f + e)) (s_now σ)) := hr_.trans (by rw [plN_n hf he])
                subst hr_
                obtain ⟨hP, hD⟩ := fr_joinR (w1 := xW cI cR cS x0 b ra sb hd ol σ) (w1' := (xW cI cR cS x0 b ra' sb' hd' ol' (g_serve σ (10 * f + e)))) (w2 := [(la 0, .inl (cI, 60, .inl (fun j => nI (l_p σ j)))), (la 1, .inl (cI, 60, .inl (fun j => nI (s_ev σ j)))), (la 2, .inl (cI, 60, .inl (fun j => nI (s_ar σ j)))), (la 3, .inl (cI, 60, .inl (fun j => nI (s_vl σ j)))), (la 4, .inl (cI, 6, .inl (fun j => nI (s_lt σ j)))), (la 5, .inl (cI, 60, .inl (fun j => nI ((uN (l_q σ) (s_k σ) ((pN (10 * f + e)) + (128 * (s_now σ)))) j)))), (la 6, .inl (cI, 60, .inl (fun j => eN ((uN (s_sv σ) (s_k σ) (q_fr σ (s_cp σ (10 * f + e)) (s_now σ))) j)))), (la 7, .inl (cI, 4, .inl (fun j => nI ((uN (l_g σ) 3 ((s_k σ) + 1)) j))))]) hP hD hAH hk_ (by rw [← ht_]; exact hB_.1) hB_.2
                have hP : va_P dD vwCl ([(la 0, .inl (cI, 60, .inl (fun j => nI (l_p σ j)))), (la 1, .inl (cI, 60, .inl (fun j => nI (s_ev σ j)))), (la 2, .inl (cI, 60, .inl (fun j => nI (s_ar σ j)))), (la 3, .inl (cI, 60, .inl (fun j => nI (s_vl σ j)))), (la 4, .inl (cI, 6, .inl (fun j => nI (s_lt σ j)))), (la 5, .inl (cI, 60, .inl (fun j => nI ((uN (l_q σ) (s_k σ) ((pN (10 * f + e)) + (128 * (s_now σ)))) j)))), (la 6, .inl (cI, 60, .inl (fun j => eN ((uN (s_sv σ) (s_k σ) (q_fr σ (s_cp σ (10 * f + e)) (s_now σ))) j)))), (la 7, .inl (cI, 4, .inl (fun j => nI ((uN (l_g σ) 3 ((s_k σ) + 1)) j))))] ++ (xW cI cR cS x0 b ra' sb' hd' ol' (g_serve σ (10 * f + e)))) H1 := hP
                have hD : va_D (kA cI cR cS la x0 b ra sb hd ol σ s.heap.size) ([(la 0, .inl (cI, 60, .inl (fun j => nI (l_p σ j)))), (la 1, .inl (cI, 60, .inl (fun j => nI (s_ev σ j)))), (la 2, .inl (cI, 60, .inl (fun j => nI (s_ar σ j)))), (la 3, .inl (cI, 60, .inl (fun j => nI (s_vl σ j)))), (la 4, .inl (cI, 6, .inl (fun j => nI (s_lt σ j)))), (la 5, .inl (cI, 60, .inl (fun j => nI ((uN (l_q σ) (s_k σ) ((pN (10 * f + e)) + (128 * (s_now σ)))) j)))), (la 6, .inl (cI, 60, .inl (fun j => eN ((uN (s_sv σ) (s_k σ) (q_fr σ (s_cp σ (10 * f + e)) (s_now σ))) j)))), (la 7, .inl (cI, 4, .inl (fun j => nI ((uN (l_g σ) 3 ((s_k σ) + 1)) j))))] ++ (xW cI cR cS x0 b ra' sb' hd' ol' (g_serve σ (10 * f + e)))) := hD
                have hL' : lI (g_serve σ (10 * f + e)) := lI_serve hL hk60
                refine lv_aload hx hb dL_keeps_849 (lv_at hl 11 rfl) ?_
                refine lv_aload hx hb dL_keeps_851 (lv_at hl 12 rfl) ?_
                refine lv_iconst (v := nI 3) hx hb dL_keeps_853 (by decide +kernel) ?_
                refine nv_ialdE (q0 := 7) (t0 := 0) (v := (s_k σ) + 1) (uN (l_g σ) 3 ((s_k σ) + 1)) (uN_s) hx hb hK hP rfl rfl (by decide) (by decide) dL_keeps_854 ?_
                refine lv_iconst (v := nI 1) hx hb dL_keeps_855 (by decide +kernel) ?_
                refine nv_isub hx hb dL_keeps_856 (by omega) ?_
                refine nv_ealdE (q0 := 6) (t0 := 0) (v := q_fr σ (s_cp σ (10 * f + e)) (s_now σ)) (uN (s_sv σ) (s_k σ) (q_fr σ (s_cp σ (10 * f + e)) (s_now σ))) (by rw [show s_k σ + 1 - 1 = s_k σ by omega]; exact uN_s) hx hb hK hP rfl rfl (by omega) (by decide) dL_keeps_857 ?_
                refine lv_icmp_ne (tgt := 865) hx hb dL_keeps_858 (by decide) (fun c_858 => absurd rfl c_858) (fun c_858 => ?_)
                refine lv_iconst (v := nI 1) hx hb dL_keeps_861 (by decide +kernel) ?_
                refine lv_goto (tgt := 866) hx hb dL_keeps_862 (by decide) ?_
                have eW : lW cI la (g_serve σ (10 * f + e)) = [(la 0, .inl (cI, 60, .inl (fun j => nI (l_p σ j)))), (la 1, .inl (cI, 60, .inl (fun j => nI (s_ev σ j)))), (la 2, .inl (cI, 60, .inl (fun j => nI (s_ar σ j)))), (la 3, .inl (cI, 60, .inl (fun j => nI (s_vl σ j)))), (la 4, .inl (cI, 6, .inl (fun j => nI (s_lt σ j)))), (la 5, .inl (cI, 60, .inl (fun j => nI ((uN (l_q σ) (s_k σ) ((pN (10 * f + e)) + (128 * (s_now σ)))) j)))), (la 6, .inl (cI, 60, .inl (fun j => eN ((uN (s_sv σ) (s_k σ) (q_fr σ (s_cp σ (10 * f + e)) (s_now σ))) j)))), (la 7, .inl (cI, 4, .inl (fun j => nI ((uN (l_g σ) 3 ((s_k σ) + 1)) j))))] := by
                  show ([(la 0, .inl (cI, 60, .inl (fun j => nI ((l_p (g_serve σ (10 * f + e))) j)))), (la 1, .inl (cI, 60, .inl (fun j => nI ((s_ev (g_serve σ (10 * f + e))) j)))), (la 2, .inl (cI, 60, .inl (fun j => nI ((s_ar (g_serve σ (10 * f + e))) j)))), (la 3, .inl (cI, 60, .inl (fun j => nI ((s_vl (g_serve σ (10 * f + e))) j)))), (la 4, .inl (cI, 6, .inl (fun j => nI ((s_lt (g_serve σ (10 * f + e))) j)))), (la 5, .inl (cI, 60, .inl (fun j => nI ((l_q (g_serve σ (10 * f + e))) j)))), (la 6, .inl (cI, 60, .inl (fun j => eN ((s_sv (g_serve σ (10 * f + e))) j)))), (la 7, .inl (cI, 4, .inl (fun j => nI ((l_g (g_serve σ (10 * f + e))) j))))] : va_W) = _
                  rw [l_q_serve, l_g_serve] <;> rfl
                refine W.widen (k := 60) (n := 400) (by omega) (by omega) ?_
                exact W.zret (v := nI 1) hx hb hr rfl (fun u9 hu9 hW => ⟨⟨nI 1, (g_serve σ (10 * f + e), ra', sb', hd', ol'), rfl, ⟨rfl, ⟨hI', hX', hJ', hL'⟩⟩, by have h9 := hP; rw [← hu9] at h9; rw [← eW] at h9 hD; exact ⟨h9, hD⟩⟩, hS.F hu9⟩) hS.2.2 dL_keeps_866
              · refine lv_aload_n hx hb dL_keeps_778 rfl (lv_at hl 1 rfl) ?_
                refine vp_callSi (va_Run.run (va_runV (As := []) (rest := []) ⟨hx, hb, hml, hown, hts⟩ (c_X2_servings l dD cI cR cS lo x0 b ra sb hd ol σ hI) (cwV 0 hts gL_keeps_X2_servings rfl rfl rfl (by decide +kernel) ⟨Nat.le_of_ble_eq_true rfl, Nat.le_of_ble_eq_true rfl⟩) (ePreV hE (hS.mono hAlo) hP (k := 8) rfl rfl (vP_app2 hP)) rfl rfl hl.1 rfl (lv_room (Nat.le_of_ble_eq_true rfl)) dL_keeps_779 ⟨(by omega : 0 + 3 + 3 + 0 ≤ 60), (by omega : 0 + 18 + 18 + 0 ≤ 400)⟩)) (fun r_779 hr_779 => ?_)
                have hr_779 : r_779 = nI (s_k σ) := hr_779
                subst hr_779
                refine lv_bipush (v := nI 60) hx hb dL_keeps_782 (by decide +kernel) ?_
                refine nv_ne (tgt := 791) hx hb dL_keeps_784 (by decide) (by omega) (by omega) (fun c_784 => absurd c_775 c_784) (fun c_784 => ?_)
                refine lv_iconst (v := nI 1) hx hb dL_keeps_787 (by decide +kernel) ?_
                refine lv_goto (tgt := 792) hx hb dL_keeps_788 (by decide) ?_
                refine W.widen (k := 60) (n := 400) (by omega) (by omega) ?_
                exact W.zret (v := nI 1) hx hb hr rfl (fun u9 hu9 hW => ⟨⟨nI 1, (σ, ra, sb, hd, ol), rfl, ⟨rfl, ⟨hI, hX, hJ, hL⟩⟩, by have h9 := hP; rw [← hu9] at h9; exact ⟨h9, hD⟩⟩, hS.F hu9⟩) hS.2.2 dL_keeps_792
            · have hj_664 : ∀ (ch : Nat) (_ : 1 ≤ ch) (_ : ch ≤ 200) (H : Heap) (locs : List Loc), va_P dD vwCl (lW cI la σ ++ xW cI cR cS x0 b ra sb hd ol σ) H → va_D (kA cI cR cS la x0 b ra sb hd ol σ s.heap.size) (lW cI la σ ++ xW cI cR cS x0 b ra sb hd ol σ) → va_S (kA cI cR cS la x0 b ra sb hd ol σ s.heap.size) s.heap H locs → ∀ (ls : Array Slot), lv_has ls 17 [(14, .int (nI (pN (10 * f + e)))), (0, .ref x0), (1, .int (nI ac)), (2, .int y), (3, .int z), (4, .ref (la 0)), (5, .ref (la 1)), (6, .ref (la 2)), (7, .ref (la 3)), (8, .ref (la 4)), (9, .ref (la 5)), (10, .ref (la 6)), (11, .ref (la 7)), (12, .int (nI f)), (13, .int (nI e)), (15, .int (nI ch))] → W p l e_ (headSpec wsL_keeps ({ frames := 10, cells := 60, slots := 400, locals := 176 })).room s m (([.ref x0, .int (nI ac), .int y, .int z, .ref (la 0), .ref (la 1), .ref (la 2), .ref (la 3), .ref (la 4), .ref (la 5), .ref (la 6), .ref (la 7)] : List Value).toArray) below meth c H locs (0) (0) (MQ below (kQ dD cI cR cS la x0 b (kA cI cR cS la x0 b ra sb hd ol σ s.heap.size)) (([.ref x0, .int (nI ac), .int y, .int z, .ref (la 0), .ref (la 1), .ref (la 2), .ref (la 3), .ref (la 4), .ref (la 5), .ref (la 6), .ref (la 7)] : List Value).toArray) s 60 400 (kA cI cR cS la x0 b ra sb hd ol σ s.heap.size)) (F0 m 664 ls []) := by
                intro ch hc1 hc2 H locs hP hD hS ls hl
                have hz_g : g_m σ ch ≤ s_n σ - s_tk σ := by unfold g_m; omega
                have hj_694 : ∀ (H : Heap) (locs : List Loc), va_P dD vwCl (lW cI la σ ++ xW cI cR cS x0 b ra sb hd ol σ) H → va_D (kA cI cR cS la x0 b ra sb hd ol σ s.heap.size) (lW cI la σ ++ xW cI cR cS x0 b ra sb hd ol σ) → va_S (kA cI cR cS la x0 b ra sb hd ol σ s.heap.size) s.heap H locs → ∀ (ls : Array Slot), lv_has ls 17 [(14, .int (nI (pN (10 * f + e)))), (0, .ref x0), (1, .int (nI ac)), (2, .int y), (3, .int z), (4, .ref (la 0)), (5, .ref (la 1)), (6, .ref (la 2)), (7, .ref (la 3)), (8, .ref (la 4)), (9, .ref (la 5)), (10, .ref (la 6)), (11, .ref (la 7)), (12, .int (nI f)), (13, .int (nI e)), (15, .int (nI ch)), (16, .int (nI (g_m σ ch)))] → W p l e_ (headSpec wsL_keeps ({ frames := 10, cells := 60, slots := 400, locals := 176 })).room s m (([.ref x0, .int (nI ac), .int y, .int z, .ref (la 0), .ref (la 1), .ref (la 2), .ref (la 3), .ref (la 4), .ref (la 5), .ref (la 6), .ref (la 7)] : List Value).toArray) below meth c H locs (0) (0) (MQ below (kQ dD cI cR cS la x0 b (kA cI cR cS la x0 b ra sb hd ol σ s.heap.size)) (([.ref x0, .int (nI ac), .int y, .int z, .ref (la 0), .ref (la 1), .ref (la 2), .ref (la 3), .ref (la 4), .ref (la 5), .ref (la 6), .ref (la 7)] : List Value).toArray) s 60 400 (kA cI cR cS la x0 b ra sb hd ol σ s.heap.size)) (F0 m 694 ls []) := by
                  intro H locs hP hD hS ls hl
                  refine lv_aload hx hb dL_keeps_694 (lv_at hl 12 rfl) ?_
                  refine lv_iconst (v := nI 2) hx hb dL_keeps_696 (by decide +kernel) ?_
                  refine lv_dup2_11 hx hb dL_keeps_697 rfl rfl ?_
                  refine nv_ialdE (q0 := 7) (t0 := 0) (v := s_tk σ) (l_g σ) (rfl) hx hb hK hP rfl rfl (by decide) (by decide) dL_keeps_698 ?_
                  refine lv_iload hx hb dL_keeps_699 (lv_at hl 16 rfl) ?_
                  refine nv_iadd hx hb dL_keeps_701 ?_
                  refine nv_iast (q0 := 7) (t0 := 0) (l_g σ) hx hb hK hP hD hS rfl rfl (by omega) (by decide) dL_keeps_702 (fun H locs hP hD hS => ?_)
                  have hP : va_P dD vwCl ([(la 0, .inl (cI, 60, .inl (fun j => nI (l_p σ j)))), (la 1, .inl (cI, 60, .inl (fun j => nI (s_ev σ j)))), (la 2, .inl (cI, 60, .inl (fun j => nI (s_ar σ j)))), (la 3, .inl (cI, 60, .inl (fun j => nI (s_vl σ j)))), (la 4, .inl (cI, 6, .inl (fun j => nI (s_lt σ j)))), (la 5, .inl (cI, 60, .inl (fun j => nI (l_q σ j)))), (la 6, .inl (cI, 60, .inl (fun j => eN (s_sv σ j)))), (la 7, .inl (cI, 4, .inl (fun j => nI ((uN (l_g σ) 2 ((s_tk σ) + (g_m σ ch))) j))))] ++ xW cI cR cS x0 b ra sb hd ol σ) H := hP
                  have hD : va_D (kA cI cR cS la x0 b ra sb hd ol σ s.heap.size) ([(la 0, .inl (cI, 60, .inl (fun j => nI (l_p σ j)))), (la 1, .inl (cI, 60, .inl (fun j => nI (s_ev σ j)))), (la 2, .inl (cI, 60, .inl (fun j => nI (s_ar σ j)))), (la 3, .inl (cI, 60, .inl (fun j => nI (s_vl σ j)))), (la 4, .inl (cI, 6, .inl (fun j => nI (s_lt σ j)))), (la 5, .inl (cI, 60, .inl (fun j => nI (l_q σ j)))), (la 6, .inl (cI, 60, .inl (fun j => eN (s_sv σ j)))), (la 7, .inl (cI, 4, .inl (fun j => nI ((uN (l_g σ) 2 ((s_tk σ) + (g_m σ ch))) j))))] ++ xW cI cR cS x0 b ra sb hd ol σ) := hD
                  refine lv_aload_n hx hb dL_keeps_703 rfl (lv_at hl 1 rfl) ?_
                  refine lv_iconst (v := nI 0) hx hb dL_keeps_704 (by decide +kernel) ?_
                  have hAH : ∀ q : Nat, H.size ≤ q → (kA cI cR cS la x0 b ra sb hd ol σ s.heap.size) q := fun q h => hA q (Nat.le_trans hS.1 h)
                  have hFc := fr_freeR (w1 := xW cI cR cS x0 b ra sb hd ol σ) (w2 := [(la 0, .inl (cI, 60, .inl (fun j => nI (l_p σ j)))), (la 1, .inl (cI, 60, .inl (fun j => nI (s_ev σ j)))), (la 2, .inl (cI, 60, .inl (fun j => nI (s_ar σ j)))), (la 3, .inl (cI, 60, .inl (fun j => nI (s_vl σ j)))), (la 4, .inl (cI, 6, .inl (fun j => nI (s_lt σ j)))), (la 5, .inl (cI, 60, .inl (fun j => nI (l_q σ j)))), (la 6, .inl (cI, 60, .inl (fun j => eN (s_sv σ j)))), (la 7, .inl (cI, 4, .inl (fun j => nI ((uN (l_g σ) 2 ((s_tk σ) + (g_m σ ch))) j))))]) hD hAH
                  refine va_calli (vx_runSW (As := [.ref x0, .int (nI 0)]) (rest := []) ⟨hx, hb, hml, hown, hts⟩ (c_L_take_no l dD cI cR cS lo hfl H.size (Nat.le_trans hlo hS.1) x0 b ra sb hd ol σ hI hX hJ (nI 0) (rg_x (by omega) (by omega) (by decide) (by decide))) (vx_cwSW 2 hts gL_keeps_L_take rfl rfl rfl (by decide +kernel) ⟨Nat.le_of_ble_eq_true rfl, Nat.le_of_ble_eq_true rfl⟩) (ePreS hE (hS.mono hAlo) ⟨rfl, vP_app2 hP, vD_mono (vD_app2 hD) hAlo⟩) rfl rfl hl.1 rfl (lv_room (Nat.le_of_ble_eq_true rfl)) dL_keeps_705 ⟨(by omega : 0 + 1 ≤ 60), (by omega : 0 + 6 ≤ 400)⟩) hS (fun q _ h => h.elim) hFc (fun r_ u_ t_ H1 locs ht_ hvm_ hw_ hB_ hz_ hk_ hS => ?_)
                  subst hw_
                  have hP := vP_kept hP (fun q h => hk_ q h (fun z => z))
                  refine lv_bipush (v := (-72)) hx hb dL_keeps_708 (by decide +kernel) ?_
                  refine lv_icmp_ne (tgt := 740) hx hb dL_keeps_710 (by decide) (fun c_710 => absurd rfl c_710) (fun c_710 => ?_)
                  refine lv_aload_n hx hb dL_keeps_713 rfl (lv_at hl 1 rfl) ?_
                  refine lv_sipush (v := nI 201) hx hb dL_keeps_714 (by decide +kernel) ?_
                  have hAH : ∀ q : Nat, H1.size ≤ q → (kA cI cR cS la x0 b ra sb hd ol σ s.heap.size) q := fun q h => hA q (Nat.le_trans hS.1 h)
                  have hFc := fr_freeR (w1 := xW cI cR cS x0 b ra sb hd ol σ) (w2 := [(la 0, .inl (cI, 60, .inl (fun j => nI (l_p σ j)))), (la 1, .inl (cI, 60, .inl (fun j => nI (s_ev σ j)))), (la 2, .inl (cI, 60, .inl (fun j => nI (s_ar σ j)))), (la 3, .inl (cI, 60, .inl (fun j => nI (s_vl σ j)))), (la 4, .inl (cI, 6, .inl (fun j => nI (s_lt σ j)))), (la 5, .inl (cI, 60, .inl (fun j => nI (l_q σ j)))), (la 6, .inl (cI, 60, .inl (fun j => eN (s_sv σ j)))), (la 7, .inl (cI, 4, .inl (fun j => nI ((uN (l_g σ) 2 ((s_tk σ) + (g_m σ ch))) j))))]) hD hAH
                  refine va_calli (vx_runSW (As := [.ref x0, .int (nI 201)]) (rest := []) ⟨hx, hb, hml, hown, hts⟩ (c_L_take_no l dD cI cR cS lo hfl H1.size (Nat.le_trans hlo hS.1) x0 b ra sb hd ol σ hI hX hJ (nI 201) (rg_x (by omega) (by omega) (by decide) (by decide))) (vx_cwSW 2 hts gL_keeps_L_take rfl rfl rfl (by decide +kernel) ⟨Nat.le_of_ble_eq_true rfl, Nat.le_of_ble_eq_true rfl⟩) (ePreS hE (hS.mono hAlo) ⟨rfl, vP_app2 hP, vD_mono (vD_app2 hD) hAlo⟩) rfl rfl hl.1 rfl (lv_room (Nat.le_of_ble_eq_true rfl)) dL_keeps_717 ⟨(by omega : 0 + 1 + 1 ≤ 60), (by omega : 0 + 6 + 6 ≤ 400)⟩) hS (fun q _ h => h.elim) hFc (fun r_ u_ t_ H1 locs ht_ hvm_ hw_ hB_ hz_ hk_ hS => ?_)
                  subst hw_
                  have hP := vP_kept hP (fun q h => hk_ q h (fun z => z))
                  refine lv_bipush (v := (-72)) hx hb dL_keeps_720 (by decide +kernel) ?_
                  refine lv_icmp_ne (tgt := 740) hx hb dL_keeps_722 (by decide) (fun c_722 => absurd rfl c_722) (fun c_722 => ?_)
                  refine lv_aload_n hx hb dL_keeps_725 rfl (lv_at hl 1 rfl) ?_
                  refine lv_iload hx hb dL_keeps_726 (lv_at hl 15 rfl) ?_
                  have hAH : ∀ q : Nat, H1.size ≤ q → (kA cI cR cS la x0 b ra sb hd ol σ s.heap.size) q := fun q h => hA q (Nat.le_trans hS.1 h)
                  have hFc := fr_freeR (w1 := xW cI cR cS x0 b ra sb hd ol σ) (w2 := [(la 0, .inl (cI, 60, .inl (fun j => nI (l_p σ j)))), (la 1, .inl (cI, 60, .inl (fun j => nI (s_ev σ j)))), (la 2, .inl (cI, 60, .inl (fun j => nI (s_ar σ j)))), (la 3, .inl (cI, 60, .inl (fun j => nI (s_vl σ j)))), (la 4, .inl (cI, 6, .inl (fun j => nI (s_lt σ j)))), (la 5, .inl (cI, 60, .inl (fun j => nI (l_q σ j)))), (la 6, .inl (cI, 60, .inl (fun j => eN (s_sv σ j)))), (la 7, .inl (cI, 4, .inl (fun j => nI ((uN (l_g σ) 2 ((s_tk σ) + (g_m σ ch))) j))))]) hD hAH
                  refine va_calli (vx_runSW (As := [.ref x0, .int (nI ch)]) (rest := []) ⟨hx, hb, hml, hown, hts⟩ (c_L_take_ok l dD cI cR cS lo hfl H1.size (Nat.le_trans hlo hS.1) x0 b ra sb hd ol σ hI hX hJ (nI ch) (rg_n hc1 hc2 (by decide))) (vx_cwSW 2 hts gL_keeps_L_take rfl rfl rfl (by decide +kernel) ⟨Nat.le_of_ble_eq_true rfl, Nat.le_of_ble_eq_true rfl⟩) (ePreS hE (hS.mono hAlo) ⟨rfl, vP_app2 hP, vD_mono (vD_app2 hD) hAlo⟩) rfl rfl hl.1 rfl (lv_room (Nat.le_of_ble_eq_true rfl)) dL_keeps_728 ⟨(by omega : 0 + 1 + 1 + 1 ≤ 60), (by omega : 0 + 6 + 6 + 6 ≤ 400)⟩) hS (fun q _ h => hFc q h) hFc (fun r_ u_ t_ H1 locs ht_ hvm_ hw_ hB_ hz_ hk_ hS => ?_)
                  obtain ⟨ra', sb', hd', ol'⟩ := u_
                  have eG : q_take σ (g_m σ (cl (nI ch))) = q_take σ (g_m σ ch) := by rw [cl_nI (show ch < 2 ^ 31 by omega)]
                  rw [eG] at hw_ hB_
                  obtain ⟨hr_, hI', hX', hJ'⟩ := hw_
                  have hr_ : r_ = nI (g_m σ ch) := hr_.trans (by rw [cl_nI (show ch < 2 ^ 31 by omega)])
                  subst hr_
                  obtain ⟨hP, hD⟩ := fr_joinR (w1 := xW cI cR cS x0 b ra sb hd ol σ) (w1' := (xW cI cR cS x0 b ra' sb' hd' ol' (q_take σ (g_m σ ch)))) (w2 := [(la 0, .inl (cI, 60, .inl (fun j => nI (l_p σ j)))), (la 1, .inl (cI, 60, .inl (fun j => nI (s_ev σ j)))), (la 2, .inl (cI, 60, .inl (fun j => nI (s_ar σ j)))), (la 3, .inl (cI, 60, .inl (fun j => nI (s_vl σ j)))), (la 4, .inl (cI, 6, .inl (fun j => nI (s_lt σ j)))), (la 5, .inl (cI, 60, .inl (fun j => nI (l_q σ j)))), (la 6, .inl (cI, 60, .inl (fun j => eN (s_sv σ j)))), (la 7, .inl (cI, 4, .inl (fun j => nI ((uN (l_g σ) 2 ((s_tk σ) + (g_m σ ch))) j))))]) hP hD hAH hk_ (by rw [← ht_]; exact hB_.1) hB_.2
                  have hP : va_P dD vwCl ([(la 0, .inl (cI, 60, .inl (fun j => nI (l_p σ j)))), (la 1, .inl (cI, 60, .inl (fun j => nI (s_ev σ j)))), (la 2, .inl (cI, 60, .inl (fun j => nI (s_ar σ j)))), (la 3, .inl (cI, 60, .inl (fun j => nI (s_vl σ j)))), (la 4, .inl (cI, 6, .inl (fun j => nI (s_lt σ j)))), (la 5, .inl (cI, 60, .inl (fun j => nI (l_q σ j)))), (la 6, .inl (cI, 60, .inl (fun j => eN (s_sv σ j)))), (la 7, .inl (cI, 4, .inl (fun j => nI ((uN (l_g σ) 2 ((s_tk σ) + (g_m σ ch))) j))))] ++ (xW cI cR cS x0 b ra' sb' hd' ol' (q_take σ (g_m σ ch)))) H1 := hP
                  have hD : va_D (kA cI cR cS la x0 b ra sb hd ol σ s.heap.size) ([(la 0, .inl (cI, 60, .inl (fun j => nI (l_p σ j)))), (la 1, .inl (cI, 60, .inl (fun j => nI (s_ev σ j)))), (la 2, .inl (cI, 60, .inl (fun j => nI (s_ar σ j)))), (la 3, .inl (cI, 60, .inl (fun j => nI (s_vl σ j)))), (la 4, .inl (cI, 6, .inl (fun j => nI (s_lt σ j)))), (la 5, .inl (cI, 60, .inl (fun j => nI (l_q σ j)))), (la 6, .inl (cI, 60, .inl (fun j => eN (s_sv σ j)))), (la 7, .inl (cI, 4, .inl (fun j => nI ((uN (l_g σ) 2 ((s_tk σ) + (g_m σ ch))) j))))] ++ (xW cI cR cS x0 b ra' sb' hd' ol' (q_take σ (g_m σ ch)))) := hD
                  have hL' : lI (q_take σ (g_m σ ch)) := lI_take hI hJ hL _ hz_g
                  refine lv_iload hx hb dL_keeps_731 (lv_at hl 16 rfl) ?_
                  refine lv_icmp_ne (tgt := 740) hx hb dL_keeps_733 (by decide) (fun c_733 => absurd rfl c_733) (fun c_733 => ?_)
                  refine lv_iconst (v := nI 1) hx hb dL_keeps_736 (by decide +kernel) ?_
                  refine lv_goto (tgt := 741) hx hb dL_keeps_737 (by decide) ?_
                  have eW : lW cI la (q_take σ (g_m σ ch)) = [(la 0, .inl (cI, 60, .inl (fun j => nI (l_p σ j)))), (la 1, .inl (cI, 60, .inl (fun j => nI (s_ev σ j)))), (la 2, .inl (cI, 60, .inl (fun j => nI (s_ar σ j)))), (la 3, .inl (cI, 60, .inl (fun j => nI (s_vl σ j)))), (la 4, .inl (cI, 6, .inl (fun j => nI (s_lt σ j)))), (la 5, .inl (cI, 60, .inl (fun j => nI (l_q σ j)))), (la 6, .inl (cI, 60, .inl (fun j => eN (s_sv σ j)))), (la 7, .inl (cI, 4, .inl (fun j => nI ((uN (l_g σ) 2 ((s_tk σ) + (g_m σ ch))) j))))] := by
                    show ([(la 0, .inl (cI, 60, .inl (fun j => nI ((l_p (q_take σ (g_m σ ch))) j)))), (la 1, .inl (cI, 60, .inl (fun j => nI ((s_ev (q_take σ (g_m σ ch))) j)))), (la 2, .inl (cI, 60, .inl (fun j => nI ((s_ar (q_take σ (g_m σ ch))) j)))), (la 3, .inl (cI, 60, .inl (fun j => nI ((s_vl (q_take σ (g_m σ ch))) j)))), (la 4, .inl (cI, 6, .inl (fun j => nI ((s_lt (q_take σ (g_m σ ch))) j)))), (la 5, .inl (cI, 60, .inl (fun j => nI ((l_q (q_take σ (g_m σ ch))) j)))), (la 6, .inl (cI, 60, .inl (fun j => eN ((s_sv (q_take σ (g_m σ ch))) j)))), (la 7, .inl (cI, 4, .inl (fun j => nI ((l_g (q_take σ (g_m σ ch))) j))))] : va_W) = _
                    rw [l_p_take, qt_ev, qt_ar, qt_vl, qt_lt, l_q_take, qt_sv, l_g_take] <;> rfl
                  refine W.widen (k := 60) (n := 400) (by omega) (by omega) ?_
                  exact W.zret (v := nI 1) hx hb hr rfl (fun u9 hu9 hW => ⟨⟨nI 1, (q_take σ (g_m σ ch), ra', sb', hd', ol'), rfl, ⟨rfl, ⟨hI', hX', hJ', hL'⟩⟩, by have h9 := hP; rw [← hu9] at h9; rw [← eW] at h9 hD; exact ⟨h9, hD⟩⟩, hS.F hu9⟩) hS.2.2 dL_keeps_741
                refine lv_aload hx hb dL_keeps_664 (lv_at hl 12 rfl) ?_
                refine lv_iconst (v := nI 1) hx hb dL_keeps_666 (by decide +kernel) ?_
                refine nv_ialdE (q0 := 7) (t0 := 0) (v := s_n σ) (l_g σ) (rfl) hx hb hK hP rfl rfl (by decide) (by decide) dL_keeps_667 ?_
                refine lv_aload hx hb dL_keeps_668 (lv_at hl 12 rfl) ?_
                refine lv_iconst (v := nI 2) hx hb dL_keeps_670 (by decide +kernel) ?_
                refine nv_ialdE (q0 := 7) (t0 := 0) (v := s_tk σ) (l_g σ) (rfl) hx hb hK hP rfl rfl (by decide) (by decide) dL_keeps_671 ?_
                refine nv_isub hx hb dL_keeps_672 (by omega) ?_
                refine lv_iload hx hb dL_keeps_673 (lv_at hl 15 rfl) ?_
                refine nv_ge (tgt := 690) hx hb dL_keeps_675 (by decide) (by omega) (by omega) (fun c_675 => ?_) (fun c_675 => ?_)
                · refine lv_iload hx hb dL_keeps_690 (lv_at hl 15 rfl) ?_
                  refine lv_istore (lv' := [(16, .int (nI ch)), (14, .int (nI (pN (10 * f + e)))), (0, .ref x0), (1, .int (nI ac)), (2, .int y), (3, .int z), (4, .ref (la 0)), (5, .ref (la 1)), (6, .ref (la 2)), (7, .ref (la 3)), (8, .ref (la 4)), (9, .ref (la 5)), (10, .ref (la 6)), (11, .ref (la 7)), (12, .int (nI f)), (13, .int (nI e)), (15, .int (nI ch))]) hx hb dL_keeps_692 hl (by decide) rfl (fun ls hl => ?_)
                  exact hj_694 _ _ hP hD hS ls (by rw [show g_m σ ch = ch by unfold g_m; omega]; exact lv_sub hl [1, 2, 3, 4, 5, 6, 7, 8, 9, 10, 11, 12, 13, 14, 15, 16, 0] rfl)
                · refine lv_aload hx hb dL_keeps_678 (lv_at hl 12 rfl) ?_
                  refine lv_iconst (v := nI 1) hx hb dL_keeps_680 (by decide +kernel) ?_
                  refine nv_ialdE (q0 := 7) (t0 := 0) (v := s_n σ) (l_g σ) (rfl) hx hb hK hP rfl rfl (by decide) (by decide) dL_keeps_681 ?_
                  refine lv_aload hx hb dL_keeps_682 (lv_at hl 12 rfl) ?_
                  refine lv_iconst (v := nI 2) hx hb dL_keeps_684 (by decide +kernel) ?_
                  refine nv_ialdE (q0 := 7) (t0 := 0) (v := s_tk σ) (l_g σ) (rfl) hx hb hK hP rfl rfl (by decide) (by decide) dL_keeps_685 ?_
                  refine nv_isub hx hb dL_keeps_686 (by omega) ?_
                  refine lv_goto (tgt := 692) hx hb dL_keeps_687 (by decide) ?_
                  refine lv_istore (lv' := [(16, .int (nI ((s_n σ) - (s_tk σ)))), (14, .int (nI (pN (10 * f + e)))), (0, .ref x0), (1, .int (nI ac)), (2, .int y), (3, .int z), (4, .ref (la 0)), (5, .ref (la 1)), (6, .ref (la 2)), (7, .ref (la 3)), (8, .ref (la 4)), (9, .ref (la 5)), (10, .ref (la 6)), (11, .ref (la 7)), (12, .int (nI f)), (13, .int (nI e)), (15, .int (nI ch))]) hx hb dL_keeps_692 hl (by decide) rfl (fun ls hl => ?_)
                  exact hj_694 _ _ hP hD hS ls (by rw [show g_m σ ch = (s_n σ) - (s_tk σ) by unfold g_m; omega]; exact lv_sub hl [1, 2, 3, 4, 5, 6, 7, 8, 9, 10, 11, 12, 13, 14, 15, 16, 0] rfl)
              refine lv_iconst (v := nI 1) hx hb dL_keeps_642 (by decide +kernel) ?_
              refine lv_iload_n hx hb dL_keeps_643 rfl (lv_at hl 4 rfl) ?_
              refine lv_iload_n hx hb dL_keeps_644 rfl (lv_at hl 4 rfl) ?_
              refine lv_bipush (v := nI 24) hx hb dL_keeps_645 (by decide +kernel) ?_
              refine lv_iand hx hb dL_keeps_647 ?_
              refine lv_if_ne (tgt := 657) hx hb dL_keeps_648 (by decide) (fun c_648 => ?_) (fun c_648 => ?_)
              · refine lv_iconst (v := nI 4) hx hb dL_keeps_657 (by decide +kernel) ?_
                refine vp_callSi (va_Run.run (va_runS (As := [.int z, .int (nI 4)]) (rest := [.int (nI 1)]) ⟨hx, hb, hml, hown, hts⟩ (c_L_low l dD cI cR cS lo z (4) (by omega) (by omega)) (va_cwS 2 hts gL_keeps_L_low rfl rfl rfl (by decide +kernel) ⟨Nat.le_of_ble_eq_true rfl, Nat.le_of_ble_eq_true rfl⟩) (ePreS hE (hS.mono hAlo) trivial) rfl rfl hl.1 rfl (lv_room (Nat.le_of_ble_eq_true rfl)) dL_keeps_658 ⟨(by omega : 0 + 0 ≤ 60), (by omega : 0 + 0 ≤ 400)⟩)) (fun r_658 hr_658 => ?_)
                obtain ⟨j, hj, rfl⟩ := hr_658
                refine nv_iadd hx hb dL_keeps_661 ?_
                refine lv_istore (lv' := [(15, .int (nI (1 + j))), (14, .int (nI (pN (10 * f + e)))), (0, .ref x0), (1, .int (nI ac)), (2, .int y), (3, .int z), (4, .ref (la 0)), (5, .ref (la 1)), (6, .ref (la 2)), (7, .ref (la 3)), (8, .ref (la 4)), (9, .ref (la 5)), (10, .ref (la 6)), (11, .ref (la 7)), (12, .int (nI f)), (13, .int (nI e))]) hx hb dL_keeps_662 hl (by decide) rfl (fun ls hl => ?_)
                exact hj_664 (1 + j) (by omega) (by omega) _ _ hP hD hS ls (lv_sub hl [1, 2, 3, 4, 5, 6, 7, 8, 9, 10, 11, 12, 13, 14, 15, 0] rfl)
              · refine lv_sipush (v := nI 200) hx hb dL_keeps_651 (by decide +kernel) ?_
                refine lv_goto (tgt := 658) hx hb dL_keeps_654 (by decide) ?_
                refine vp_callSi (va_Run.run (va_runS (As := [.int z, .int (nI 200)]) (rest := [.int (nI 1)]) ⟨hx, hb, hml, hown, hts⟩ (c_L_low l dD cI cR cS lo z (200) (by omega) (by omega)) (va_cwS 2 hts gL_keeps_L_low rfl rfl rfl (by decide +kernel) ⟨Nat.le_of_ble_eq_true rfl, Nat.le_of_ble_eq_true rfl⟩) (ePreS hE (hS.mono hAlo) trivial) rfl rfl hl.1 rfl (lv_room (Nat.le_of_ble_eq_true rfl)) dL_keeps_658 ⟨(by omega : 0 + 0 ≤ 60), (by omega : 0 + 0 ≤ 400)⟩)) (fun r_658 hr_658 => ?_)
                obtain ⟨j, hj, rfl⟩ := hr_658
                refine nv_iadd hx hb dL_keeps_661 ?_
                refine lv_istore (lv' := [(15, .int (nI (1 + j))), (14, .int (nI (pN (10 * f + e)))), (0, .ref x0), (1, .int (nI ac)), (2, .int y), (3, .int z), (4, .ref (la 0)), (5, .ref (la 1)), (6, .ref (la 2)), (7, .ref (la 3)), (8, .ref (la 4)), (9, .ref (la 5)), (10, .ref (la 6)), (11, .ref (la 7)), (12, .int (nI f)), (13, .int (nI e))]) hx hb dL_keeps_662 hl (by decide) rfl (fun ls hl => ?_)
                exact hj_664 (1 + j) (by omega) (by omega) _ _ hP hD hS ls (lv_sub hl [1, 2, 3, 4, 5, 6, 7, 8, 9, 10, 11, 12, 13, 14, 15, 0] rfl)
          · have hj_564 : ∀ (tm : Nat) (_ : tm ≤ 10000) (H : Heap) (locs : List Loc), va_P dD vwCl (lW cI la σ ++ xW cI cR cS x0 b ra sb hd ol σ) H → va_D (kA cI cR cS la x0 b ra sb hd ol σ s.heap.size) (lW cI la σ ++ xW cI cR cS x0 b ra sb hd ol σ) → va_S (kA cI cR cS la x0 b ra sb hd ol σ s.heap.size) s.heap H locs → ∀ (ls : Array Slot), lv_has ls 17 [(14, .int (nI (pN (10 * f + e)))), (0, .ref x0), (1, .int (nI ac)), (2, .int y), (3, .int z), (4, .ref (la 0)), (5, .ref (la 1)), (6, .ref (la 2)), (7, .ref (la 3)), (8, .ref (la 4)), (9, .ref (la 5)), (10, .ref (la 6)), (11, .ref (la 7)), (12, .int (nI f)), (13, .int (nI e)), (15, .int (nI tm))] → W p l e_ (headSpec wsL_keeps ({ frames := 10, cells := 60, slots := 400, locals := 176 })).room s m (([.ref x0, .int (nI ac), .int y, .int z, .ref (la 0), .ref (la 1), .ref (la 2), .ref (la 3), .ref (la 4), .ref (la 5), .ref (la 6), .ref (la 7)] : List Value).toArray) below meth c H locs (0) (0) (MQ below (kQ dD cI cR cS la x0 b (kA cI cR cS la x0 b ra sb hd ol σ s.heap.size)) (([.ref x0, .int (nI ac), .int y, .int z, .ref (la 0), .ref (la 1), .ref (la 2), .ref (la 3), .ref (la 4), .ref (la 5), .ref (la 6), .ref (la 7)] : List Value).toArray) s 60 400 (kA cI cR cS la x0 b ra sb hd ol σ s.heap.size)) (F0 m 564 ls []) := by
              intro tm ht H locs hP hD hS ls hl
              have hz_f := i_lt f hf
              refine lv_aload hx hb dL_keeps_564 (lv_at hl 9 rfl) ?_
              refine lv_iload hx hb dL_keeps_566 (lv_at hl 13 rfl) ?_
              refine nv_iald (q0 := 4) (t0 := 0) (s_lt σ) hx hb hK hP rfl rfl (by omega) (by decide) dL_keeps_568 ?_
              refine lv_istore (lv' := [(16, .int (nI (s_lt σ f))), (14, .int (nI (pN (10 * f + e)))), (0, .ref x0), (1, .int (nI ac)), (2, .int y), (3, .int z), (4, .ref (la 0)), (5, .ref (la 1)), (6, .ref (la 2)), (7, .ref (la 3)), (8, .ref (la 4)), (9, .ref (la 5)), (10, .ref (la 6)), (11, .ref (la 7)), (12, .int (nI f)), (13, .int (nI e)), (15, .int (nI tm))]) hx hb dL_keeps_569 hl (by decide) rfl (fun ls hl => ?_)
              refine lv_aload hx hb dL_keeps_571 (lv_at hl 10 rfl) ?_
              refine lv_iload hx hb dL_keeps_573 (lv_at hl 14 rfl) ?_
              refine lv_iload hx hb dL_keeps_575 (lv_at hl 16 rfl) ?_
              refine nv_iast (q0 := 4) (t0 := 0) (s_lt σ) hx hb hK hP hD hS rfl rfl (by omega) (by decide) dL_keeps_577 (fun H locs hP hD hS => ?_)
              have hP : va_P dD vwCl ([(la 0, .inl (cI, 60, .inl (fun j => nI (l_p σ j)))), (la 1, .inl (cI, 60, .inl (fun j => nI (s_ev σ j)))), (la 2, .inl (cI, 60, .inl (fun j => nI (s_ar σ j)))), (la 3, .inl (cI, 60, .inl (fun j => nI (s_vl σ j)))), (la 4, .inl (cI, 6, .inl (fun j => nI ((uN (s_lt σ) f tm) j)))), (la 5, .inl (cI, 60, .inl (fun j => nI (l_q σ j)))), (la 6, .inl (cI, 60, .inl (fun j => eN (s_sv σ j)))), (la 7, .inl (cI, 4, .inl (fun j => nI (l_g σ j))))] ++ xW cI cR cS x0 b ra sb hd ol σ) H := hP
              have hD : va_D (kA cI cR cS la x0 b ra sb hd ol σ s.heap.size) ([(la 0, .inl (cI, 60, .inl (fun j => nI (l_p σ j)))), (la 1, .inl (cI, 60, .inl (fun j => nI (s_ev σ j)))), (la 2, .inl (cI, 60, .inl (fun j => nI (s_ar σ j)))), (la 3, .inl (cI, 60, .inl (fun j => nI (s_vl σ j)))), (la 4, .inl (cI, 6, .inl (fun j => nI ((uN (s_lt σ) f tm) j)))), (la 5, .inl (cI, 60, .inl (fun j => nI (l_q σ j)))), (la 6, .inl (cI, 60, .inl (fun j => eN (s_sv σ j)))), (la 7, .inl (cI, 4, .inl (fun j => nI (l_g σ j))))] ++ xW cI cR cS x0 b ra sb hd ol σ) := hD
              refine lv_aload_n hx hb dL_keeps_578 rfl (lv_at hl 2 rfl) ?_
              refine lv_bipush (v := nI 6) hx hb dL_keeps_579 (by decide +kernel) ?_
              refine lv_iload hx hb dL_keeps_581 (lv_at hl 16 rfl) ?_
              have hAH : ∀ q : Nat, H.size ≤ q → (kA cI cR cS la x0 b ra sb hd ol σ s.heap.size) q := fun q h => hA q (Nat.le_trans hS.1 h)
              have hFc := fr_freeR (w1 := xW cI cR cS x0 b ra sb hd ol σ) (w2 := [(la 0, .inl (cI, 60, .inl (fun j => nI (l_p σ j)))), (la 1, .inl (cI, 60, .inl (fun j => nI (s_ev σ j)))), (la 2, .inl (cI, 60, .inl (fun j => nI (s_ar σ j)))), (la 3, .inl (cI, 60, .inl (fun j => nI (s_vl σ j)))), (la 4, .inl (cI, 6, .inl (fun j => nI ((uN (s_lt σ) f tm) j)))), (la 5, .inl (cI, 60, .inl (fun j => nI (l_q σ j)))), (la 6, .inl (cI, 60, .inl (fun j => eN (s_sv σ j)))), (la 7, .inl (cI, 4, .inl (fun j => nI (l_g σ j))))]) hD hAH
              refine va_calli (vx_runSW (As := [.ref x0, .int (nI 6), .int (nI tm)]) (rest := []) ⟨hx, hb, hml, hown, hts⟩ (c_L_setLifetime_no l dD cI cR cS lo hfl H.size (Nat.le_trans hlo hS.1) x0 b ra sb hd ol σ hI hX hJ (nI 6) (nI tm) (fun z => absurd z.1 (rg_x (by omega) (by omega) (by decide) (by decide)))) (vx_cwSW 3 hts gL_keeps_L_setLifetime rfl rfl rfl (by decide +kernel) ⟨Nat.le_of_ble_eq_true rfl, Nat.le_of_ble_eq_true rfl⟩) (ePreS hE (hS.mono hAlo) ⟨rfl, vP_app2 hP, vD_mono (vD_app2 hD) hAlo⟩) rfl rfl hl.1 rfl (lv_room (Nat.le_of_ble_eq_true rfl)) dL_keeps_583 ⟨(by omega : 0 + 2 ≤ 60), (by omega : 0 + 12 ≤ 400)⟩) hS (fun q _ h => h.elim) hFc (fun r_ u_ t_ H1 locs ht_ hvm_ hw_ hB_ hz_ hk_ hS => ?_)
              subst hw_
              have hP := vP_kept hP (fun q h => hk_ q h (fun z => z))
              refine lv_bipush (v := (-72)) hx hb dL_keeps_586 (by decide +kernel) ?_
              refine lv_icmp_ne (tgt := 634) hx hb dL_keeps_588 (by decide) (fun c_588 => absurd rfl c_588) (fun c_588 => ?_)
              refine lv_aload_n hx hb dL_keeps_591 rfl (lv_at hl 2 rfl) ?_
              refine lv_iload hx hb dL_keeps_592 (lv_at hl 14 rfl) ?_
              refine lv_sipush (v := nI 10001) hx hb dL_keeps_594 (by decide +kernel) ?_
              have hAH : ∀ q : Nat, H1.size ≤ q → (kA cI cR cS la x0 b ra sb hd ol σ s.heap.size) q := fun q h => hA q (Nat.le_trans hS.1 h)
              have hFc := fr_freeR (w1 := xW cI cR cS x0 b ra sb hd ol σ) (w2 := [(la 0, .inl (cI, 60, .inl (fun j => nI (l_p σ j)))), (la 1, .inl (cI, 60, .inl (fun j => nI (s_ev σ j)))), (la 2, .inl (cI, 60, .inl (fun j => nI (s_ar σ j)))), (la 3, .inl (cI, 60, .inl (fun j => nI (s_vl σ j)))), (la 4, .inl (cI, 6, .inl (fun j => nI ((uN (s_lt σ) f tm) j)))), (la 5, .inl (cI, 60, .inl (fun j => nI (l_q σ j)))), (la 6, .inl (cI, 60, .inl (fun j => eN (s_sv σ j)))), (la 7, .inl (cI, 4, .inl (fun j => nI (l_g σ j))))]) hD hAH
              refine va_calli (vx_runSW (As := [.ref x0, .int (nI f), .int (nI 10001)]) (rest := []) ⟨hx, hb, hml, hown, hts⟩ (c_L_setLifetime_no l dD cI cR cS lo hfl H1.size (Nat.le_trans hlo hS.1) x0 b ra sb hd ol σ hI hX hJ (nI f) (nI 10001) (fun z => absurd z.2 (rg_x (by omega) (by omega) (by decide) (by decide)))) (vx_cwSW 3 hts gL_keeps_L_setLifetime rfl rfl rfl (by decide +kernel) ⟨Nat.le_of_ble_eq_true rfl, Nat.le_of_ble_eq_true rfl⟩) (ePreS hE (hS.mono hAlo) ⟨rfl, vP_app2 hP, vD_mono (vD_app2 hD) hAlo⟩) rfl rfl hl.1 rfl (lv_room (Nat.le_of_ble_eq_true rfl)) dL_keeps_597 ⟨(by omega : 0 + 2 + 2 ≤ 60), (by omega : 0 + 12 + 12 ≤ 400)⟩) hS (fun q _ h => h.elim) hFc (fun r_ u_ t_ H1 locs ht_ hvm_ hw_ hB_ hz_ hk_ hS => ?_)
              subst hw_
              have hP := vP_kept hP (fun q h => hk_ q h (fun z => z))
              refine lv_bipush (v := (-72)) hx hb dL_keeps_600 (by decide +kernel) ?_
              refine lv_icmp_ne (tgt := 634) hx hb dL_keeps_602 (by decide) (fun c_602 => absurd rfl c_602) (fun c_602 => ?_)
              refine lv_aload_n hx hb dL_keeps_605 rfl (lv_at hl 2 rfl) ?_
              refine lv_iload hx hb dL_keeps_606 (lv_at hl 14 rfl) ?_
              refine lv_iconst (v := (-1)) hx hb dL_keeps_608 (by decide +kernel) ?_
              have hAH : ∀ q : Nat, H1.size ≤ q → (kA cI cR cS la x0 b ra sb hd ol σ s.heap.size) q := fun q h => hA q (Nat.le_trans hS.1 h)
              have hFc := fr_freeR (w1 := xW cI cR cS x0 b ra sb hd ol σ) (w2 := [(la 0, .inl (cI, 60, .inl (fun j => nI (l_p σ j)))), (la 1, .inl (cI, 60, .inl (fun j => nI (s_ev σ j)))), (la 2, .inl (cI, 60, .inl (fun j => nI (s_ar σ j)))), (la 3, .inl (cI, 60, .inl (fun j => nI (s_vl σ j)))), (la 4, .inl (cI, 6, .inl (fun j => nI ((uN (s_lt σ) f tm) j)))), (la 5, .inl (cI, 60, .inl (fun j => nI (l_q σ j)))), (la 6, .inl (cI, 60, .inl (fun j => eN (s_sv σ j)))), (la 7, .inl (cI, 4, .inl (fun j => nI (l_g σ j))))]) hD hAH
              refine va_calli (vx_runSW (As := [.ref x0, .int (nI f), .int ((-1))]) (rest := []) ⟨hx, hb, hml, hown, hts⟩ (c_L_setLifetime_no l dD cI cR cS lo hfl H1.size (Nat.le_trans hlo hS.1) x0 b ra sb hd ol σ hI hX hJ (nI f) ((-1)) (fun z => absurd z.2 (rg_m1 (by decide)))) (vx_cwSW 3 hts gL_keeps_L_setLifetime rfl rfl rfl (by decide +kernel) ⟨Nat.le_of_ble_eq_true rfl, Nat.le_of_ble_eq_true rfl⟩) (ePreS hE (hS.mono hAlo) ⟨rfl, vP_app2 hP, vD_mono (vD_app2 hD) hAlo⟩) rfl rfl hl.1 rfl (lv_room (Nat.le_of_ble_eq_true rfl)) dL_keeps_609 ⟨(by omega : 0 + 2 + 2 + 2 ≤ 60), (by omega : 0 + 12 + 12 + 12 ≤ 400)⟩) hS (fun q _ h => h.elim) hFc (fun r_ u_ t_ H1 locs ht_ hvm_ hw_ hB_ hz_ hk_ hS => ?_)
              subst hw_
              have hP := vP_kept hP (fun q h => hk_ q h (fun z => z))
              refine lv_bipush (v := (-72)) hx hb dL_keeps_612 (by decide +kernel) ?_
              refine lv_icmp_ne (tgt := 634) hx hb dL_keeps_614 (by decide) (fun c_614 => absurd rfl c_614) (fun c_614 => ?_)
              refine lv_aload_n hx hb dL_keeps_617 rfl (lv_at hl 2 rfl) ?_
              refine lv_iload hx hb dL_keeps_618 (lv_at hl 14 rfl) ?_
              refine lv_iload hx hb dL_keeps_620 (lv_at hl 16 rfl) ?_
              have hAH : ∀ q : Nat, H1.size ≤ q → (kA cI cR cS la x0 b ra sb hd ol σ s.heap.size) q := fun q h => hA q (Nat.le_trans hS.1 h)
              have hFc := fr_freeR (w1 := xW cI cR cS x0 b ra sb hd ol σ) (w2 := [(la 0, .inl (cI, 60, .inl (fun j => nI (l_p σ j)))), (la 1, .inl (cI, 60, .inl (fun j => nI (s_ev σ j)))), (la 2, .inl (cI, 60, .inl (fun j => nI (s_ar σ j)))), (la 3, .inl (cI, 60, .inl (fun j => nI (s_vl σ j)))), (la 4, .inl (cI, 6, .inl (fun j => nI ((uN (s_lt σ) f tm) j)))), (la 5, .inl (cI, 60, .inl (fun j => nI (l_q σ j)))), (la 6, .inl (cI, 60, .inl (fun j => eN (s_sv σ j)))), (la 7, .inl (cI, 4, .inl (fun j => nI (l_g σ j))))]) hD hAH
              refine va_calli (vx_runSW (As := [.ref x0, .int (nI f), .int (nI tm)]) (rest := []) ⟨hx, hb, hml, hown, hts⟩ (c_L_setLifetime_ok l dD cI cR cS lo hfl H1.size (Nat.le_trans hlo hS.1) x0 b ra sb hd ol σ hI hX hJ (nI f) (nI tm) (⟨rg_n (Nat.zero_le _) (by omega) (by decide), rg_n (Nat.zero_le _) ht (by decide)⟩)) (vx_cwSW 3 hts gL_keeps_L_setLifetime rfl rfl rfl (by decide +kernel) ⟨Nat.le_of_ble_eq_true rfl, Nat.le_of_ble_eq_true rfl⟩) (ePreS hE (hS.mono hAlo) ⟨rfl, vP_app2 hP, vD_mono (vD_app2 hD) hAlo⟩) rfl rfl hl.1 rfl (lv_room (Nat.le_of_ble_eq_true rfl)) dL_keeps_622 ⟨(by omega : 0 + 2 + 2 + 2 + 2 ≤ 60), (by omega : 0 + 12 + 12 + 12 + 12 ≤ 400)⟩) hS (fun q _ h => hFc q h) hFc (fun r_ u_ t_ H1 locs ht_ hvm_ hw_ hB_ hz_ hk_ hS => ?_)
              obtain ⟨ra', sb', hd', ol'⟩ := u_
              have eG : g_setL σ (cl (nI f)) (cl (nI tm)) = g_setL σ f tm := by rw [cl_nI (show f < 2 ^ 31 by omega), cl_nI (show tm < 2 ^ 31 by omega)]
              rw [eG] at hw_ hB_
              obtain ⟨hr_, hI', hX', hJ'⟩ := hw_
              have hr_ : r_ = nI (s_lt σ f) := hr_.trans (by rw [cl_nI (show f < 2 ^ 31 by omega)])
              subst hr_
              obtain ⟨hP, hD⟩ := fr_joinR (w1 := xW cI cR cS x0 b ra sb hd ol σ) (w1' := (xW cI cR cS x0 b ra' sb' hd' ol' (g_setL σ f tm))) (w2 := [(la 0, .inl (cI, 60, .inl (fun j => nI (l_p σ j)))), (la 1, .inl (cI, 60, .inl (fun j => nI (s_ev σ j)))), (la 2, .inl (cI, 60, .inl (fun j => nI (s_ar σ j)))), (la 3, .inl (cI, 60, .inl (fun j => nI (s_vl σ j)))), (la 4, .inl (cI, 6, .inl (fun j => nI ((uN (s_lt σ) f tm) j)))), (la 5, .inl (cI, 60, .inl (fun j => nI (l_q σ j)))), (la 6, .inl (cI, 60, .inl (fun j => eN (s_sv σ j)))), (la 7, .inl (cI, 4, .inl (fun j => nI (l_g σ j))))]) hP hD hAH hk_ (by rw [← ht_]; exact hB_.1) hB_.2
              have hP : va_P dD vwCl ([(la 0, .inl (cI, 60, .inl (fun j => nI (l_p σ j)))), (la 1, .inl (cI, 60, .inl (fun j => nI (s_ev σ j)))), (la 2, .inl (cI, 60, .inl (fun j => nI (s_ar σ j)))), (la 3, .inl (cI, 60, .inl (fun j => nI (s_vl σ j)))), (la 4, .inl (cI, 6, .inl (fun j => nI ((uN (s_lt σ) f tm) j)))), (la 5, .inl (cI, 60, .inl (fun j => nI (l_q σ j)))), (la 6, .inl (cI, 60, .inl (fun j => eN (s_sv σ j)))), (la 7, .inl (cI, 4, .inl (fun j => nI (l_g σ j))))] ++ (xW cI cR cS x0 b ra' sb' hd' ol' (g_setL σ f tm))) H1 := hP
              have hD : va_D (kA cI cR cS la x0 b ra sb hd ol σ s.heap.size) ([(la 0, .inl (cI, 60, .inl (fun j => nI (l_p σ j)))), (la 1, .inl (cI, 60, .inl (fun j => nI (s_ev σ j)))), (la 2, .inl (cI, 60, .inl (fun j => nI (s_ar σ j)))), (la 3, .inl (cI, 60, .inl (fun j => nI (s_vl σ j)))), (la 4, .inl (cI, 6, .inl (fun j => nI ((uN (s_lt σ) f tm) j)))), (la 5, .inl (cI, 60, .inl (fun j => nI (l_q σ j)))), (la 6, .inl (cI, 60, .inl (fun j => eN (s_sv σ j)))), (la 7, .inl (cI, 4, .inl (fun j => nI (l_g σ j))))] ++ (xW cI cR cS x0 b ra' sb' hd' ol' (g_setL σ f tm))) := hD
              have hL' : lI (g_setL σ f tm) := lI_setL hL
              refine lv_iload hx hb dL_keeps_625 (lv_at hl 0 rfl) ?_
              refine lv_icmp_ne (tgt := 634) hx hb dL_keeps_627 (by decide) (fun c_627 => absurd rfl c_627) (fun c_627 => ?_)
              refine lv_iconst (v := nI 1) hx hb dL_keeps_630 (by decide +kernel) ?_
              refine lv_goto (tgt := 635) hx hb dL_keeps_631 (by decide) ?_
              have eW : lW cI la (g_setL σ f tm) = [(la 0, .inl (cI, 60, .inl (fun j => nI (l_p σ j)))), (la 1, .inl (cI, 60, .inl (fun j => nI (s_ev σ j)))), (la 2, .inl (cI, 60, .inl (fun j => nI (s_ar σ j)))), (la 3, .inl (cI, 60, .inl (fun j => nI (s_vl σ j)))), (la 4, .inl (cI, 6, .inl (fun j => nI ((uN (s_lt σ) f tm) j)))), (la 5, .inl (cI, 60, .inl (fun j => nI (l_q σ j)))), (la 6, .inl (cI, 60, .inl (fun j => eN (s_sv σ j)))), (la 7, .inl (cI, 4, .inl (fun j => nI (l_g σ j))))] := by
                show ([(la 0, .inl (cI, 60, .inl (fun j => nI ((l_p (g_setL σ f tm)) j)))), (la 1, .inl (cI, 60, .inl (fun j => nI ((s_ev (g_setL σ f tm)) j)))), (la 2, .inl (cI, 60, .inl (fun j => nI ((s_ar (g_setL σ f tm)) j)))), (la 3, .inl (cI, 60, .inl (fun j => nI ((s_vl (g_setL σ f tm)) j)))), (la 4, .inl (cI, 6, .inl (fun j => nI ((s_lt (g_setL σ f tm)) j)))), (la 5, .inl (cI, 60, .inl (fun j => nI ((l_q (g_setL σ f tm)) j)))), (la 6, .inl (cI, 60, .inl (fun j => eN ((s_sv (g_setL σ f tm)) j)))), (la 7, .inl (cI, 4, .inl (fun j => nI ((l_g (g_setL σ f tm)) j))))] : va_W) = _
                rfl
              refine W.widen (k := 60) (n := 400) (by omega) (by omega) ?_
              exact W.zret (v := nI 1) hx hb hr rfl (fun u9 hu9 hW => ⟨⟨nI 1, (g_setL σ f tm, ra', sb', hd', ol'), rfl, ⟨rfl, ⟨hI', hX', hJ', hL'⟩⟩, by have h9 := hP; rw [← hu9] at h9; rw [← eW] at h9 hD; exact ⟨h9, hD⟩⟩, hS.F hu9⟩) hS.2.2 dL_keeps_635
            refine lv_iload_n hx hb dL_keeps_535 rfl (lv_at hl 4 rfl) ?_
            refine lv_bipush (v := nI 6) hx hb dL_keeps_536 (by decide +kernel) ?_
            refine lv_iand hx hb dL_keeps_538 ?_
            refine lv_if_ne (tgt := 554) hx hb dL_keeps_539 (by decide) (fun c_539 => ?_) (fun c_539 => ?_)
            · refine lv_iload_n hx hb dL_keeps_554 rfl (lv_at hl 4 rfl) ?_
              refine lv_iconst (v := nI 3) hx hb dL_keeps_555 (by decide +kernel) ?_
              refine lv_ishr hx hb dL_keeps_556 ?_
              refine lv_bipush (v := nI 60) hx hb dL_keeps_557 (by decide +kernel) ?_
              refine vp_callSi (va_Run.run (va_runS (As := [.int (z >>> ((nI 3) &&& 31)), .int (nI 60)]) (rest := []) ⟨hx, hb, hml, hown, hts⟩ (c_L_low l dD cI cR cS lo (z >>> ((nI 3) &&& 31)) (60) (by omega) (by omega)) (va_cwS 2 hts gL_keeps_L_low rfl rfl rfl (by decide +kernel) ⟨Nat.le_of_ble_eq_true rfl, Nat.le_of_ble_eq_true rfl⟩) (ePreS hE (hS.mono hAlo) trivial) rfl rfl hl.1 rfl (lv_room (Nat.le_of_ble_eq_true rfl)) dL_keeps_559 ⟨(by omega : 0 + 0 ≤ 60), (by omega : 0 + 0 ≤ 400)⟩)) (fun r_559 hr_559 => ?_)
              obtain ⟨j, hj, rfl⟩ := hr_559
              refine lv_istore (lv' := [(15, .int (nI j)), (14, .int (nI (pN (10 * f + e)))), (0, .ref x0), (1, .int (nI ac)), (2, .int y), (3, .int z), (4, .ref (la 0)), (5, .ref (la 1)), (6, .ref (la 2)), (7, .ref (la 3)), (8, .ref (la 4)), (9, .ref (la 5)), (10, .ref (la 6)), (11, .ref (la 7)), (12, .int (nI f)), (13, .int (nI e))]) hx hb dL_keeps_562 hl (by decide) rfl (fun ls hl => ?_)
              exact hj_564 j (by omega) _ _ hP hD hS ls (lv_sub hl [1, 2, 3, 4, 5, 6, 7, 8, 9, 10, 11, 12, 13, 14, 15, 0] rfl)
            · refine lv_iload_n hx hb dL_keeps_542 rfl (lv_at hl 4 rfl) ?_
              refine lv_iconst (v := nI 3) hx hb dL_keeps_543 (by decide +kernel) ?_
              refine lv_ishr hx hb dL_keeps_544 ?_
              refine lv_sipush (v := nI 10001) hx hb dL_keeps_545 (by decide +kernel) ?_
              refine vp_callSi (va_Run.run (va_runS (As := [.int (z >>> ((nI 3) &&& 31)), .int (nI 10001)]) (rest := []) ⟨hx, hb, hml, hown, hts⟩ (c_L_low l dD cI cR cS lo (z >>> ((nI 3) &&& 31)) (10001) (by omega) (by omega)) (va_cwS 2 hts gL_keeps_L_low rfl rfl rfl (by decide +kernel) ⟨Nat.le_of_ble_eq_true rfl, Nat.le_of_ble_eq_true rfl⟩) (ePreS hE (hS.mono hAlo) trivial) rfl rfl hl.1 rfl (lv_room (Nat.le_of_ble_eq_true rfl)) dL_keeps_548 ⟨(by omega : 0 + 0 ≤ 60), (by omega : 0 + 0 ≤ 400)⟩)) (fun r_548 hr_548 => ?_)
              obtain ⟨j, hj, rfl⟩ := hr_548
              refine lv_goto (tgt := 562) hx hb dL_keeps_551 (by decide) ?_
              refine lv_istore (lv' := [(15, .int (nI j)), (14, .int (nI (pN (10 * f + e)))), (0, .ref x0), (1, .int (nI ac)), (2, .int y), (3, .int z), (4, .ref (la 0)), (5, .ref (la 1)), (6, .ref (la 2)), (7, .ref (la 3)), (8, .ref (la 4)), (9, .ref (la 5)), (10, .ref (la 6)), (11, .ref (la 7)), (12, .int (nI f)), (13, .int (nI e))]) hx hb dL_keeps_562 hl (by decide) rfl (fun ls hl => ?_)
              exact hj_564 j (by omega) _ _ hP hD hS ls (lv_sub hl [1, 2, 3, 4, 5, 6, 7, 8, 9, 10, 11, 12, 13, 14, 15, 0] rfl)
        · have hj_418 : ∀ (tm : Nat) (_ : 1 ≤ tm) (_ : tm ≤ 400) (H : Heap) (locs : List Loc), va_P dD vwCl (lW cI la σ ++ xW cI cR cS x0 b ra sb hd ol σ) H → va_D (kA cI cR cS la x0 b ra sb hd ol σ s.heap.size) (lW cI la σ ++ xW cI cR cS x0 b ra sb hd ol σ) → va_S (kA cI cR cS la x0 b ra sb hd ol σ s.heap.size) s.heap H locs → ∀ (ls : Array Slot), lv_has ls 17 [(14, .int (nI (pN (10 * f + e)))), (0, .ref x0), (1, .int (nI ac)), (2, .int y), (3, .int z), (4, .ref (la 0)), (5, .ref (la 1)), (6, .ref (la 2)), (7, .ref (la 3)), (8, .ref (la 4)), (9, .ref (la 5)), (10, .ref (la 6)), (11, .ref (la 7)), (12, .int (nI f)), (13, .int (nI e)), (15, .int (nI tm))] → W p l e_ (headSpec wsL_keeps ({ frames := 10, cells := 60, slots := 400, locals := 176 })).room s m (([.ref x0, .int (nI ac), .int y, .int z, .ref (la 0), .ref (la 1), .ref (la 2), .ref (la 3), .ref (la 4), .ref (la 5), .ref (la 6), .ref (la 7)] : List Value).toArray) below meth c H locs (0) (0) (MQ below (kQ dD cI cR cS la x0 b (kA cI cR cS la x0 b ra sb hd ol σ s.heap.size)) (([.ref x0, .int (nI ac), .int y, .int z, .ref (la 0), .ref (la 1), .ref (la 2), .ref (la 3), .ref (la 4), .ref (la 5), .ref (la 6), .ref (la 7)] : List Value).toArray) s 60 400 (kA cI cR cS la x0 b ra sb hd ol σ s.heap.size)) (F0 m 418 ls []) := by
            intro tm ht1 ht2 H locs hP hD hS ls hl
            refine lv_aload_n hx hb dL_keeps_418 rfl (lv_at hl 1 rfl) ?_
            refine lv_iconst (v := nI 0) hx hb dL_keeps_419 (by decide +kernel) ?_
            have hAH : ∀ q : Nat, H.size ≤ q → (kA cI cR cS la x0 b ra sb hd ol σ s.heap.size) q := fun q h => hA q (Nat.le_trans hS.1 h)
            have hFc := fr_freeR (w1 := xW cI cR cS x0 b ra sb hd ol σ) (w2 := lW cI la σ) hD hAH
            refine va_calli (vx_runSW (As := [.ref x0, .int (nI 0)]) (rest := []) ⟨hx, hb, hml, hown, hts⟩ (c_L_pass_no l dD cI cR cS lo hfl H.size (Nat.le_trans hlo hS.1) x0 b ra sb hd ol σ hI hX hJ (nI 0) (rg_x (by omega) (by omega) (by decide) (by decide))) (vx_cwSW 2 hts gL_keeps_L_pass rfl rfl rfl (by decide +kernel) ⟨Nat.le_of_ble_eq_true rfl, Nat.le_of_ble_eq_true rfl⟩) (ePreS hE (hS.mono hAlo) ⟨rfl, vP_app2 hP, vD_mono (vD_app2 hD) hAlo⟩) rfl rfl hl.1 rfl (lv_room (Nat.le_of_ble_eq_true rfl)) dL_keeps_420 ⟨(by omega : 0 + 2 ≤ 60), (by omega : 0 + 12 ≤ 400)⟩) hS (fun q _ h => h.elim) hFc (fun r_ u_ t_ H1 locs ht_ hvm_ hw_ hB_ hz_ hk_ hS => ?_)
            subst hw_
            have hP := vP_kept hP (fun q h => hk_ q h (fun z => z))
            refine lv_bipush (v := (-72)) hx hb dL_keeps_423 (by decide +kernel) ?_
            refine lv_icmp_ne (tgt := 469) hx hb dL_keeps_425 (by decide) (fun c_425 => absurd rfl c_425) (fun c_425 => ?_)
            refine lv_aload_n hx hb dL_keeps_428 rfl (lv_at hl 1 rfl) ?_
            refine lv_sipush (v := nI 10001) hx hb dL_keeps_429 (by decide +kernel) ?_
            have hAH : ∀ q : Nat, H1.size ≤ q → (kA cI cR cS la x0 b ra sb hd ol σ s.heap.size) q := fun q h => hA q (Nat.le_trans hS.1 h)
            have hFc := fr_freeR (w1 := xW cI cR cS x0 b ra sb hd ol σ) (w2 := lW cI la σ) hD hAH
            refine va_calli (vx_runSW (As := [.ref x0, .int (nI 10001)]) (rest := []) ⟨hx, hb, hml, hown, hts⟩ (c_L_pass_no l dD cI cR cS lo hfl H1.size (Nat.le_trans hlo hS.1) x0 b ra sb hd ol σ hI hX hJ (nI 10001) (rg_x (by omega) (by omega) (by decide) (by decide))) (vx_cwSW 2 hts gL_keeps_L_pass rfl rfl rfl (by decide +kernel) ⟨Nat.le_of_ble_eq_true rfl, Nat.le_of_ble_eq_true rfl⟩) (ePreS hE (hS.mono hAlo) ⟨rfl, vP_app2 hP, vD_mono (vD_app2 hD) hAlo⟩) rfl rfl hl.1 rfl (lv_room (Nat.le_of_ble_eq_true rfl)) dL_keeps_432 ⟨(by omega : 0 + 2 + 2 ≤ 60), (by omega : 0 + 12 + 12 ≤ 400)⟩) hS (fun q _ h => h.elim) hFc (fun r_ u_ t_ H1 locs ht_ hvm_ hw_ hB_ hz_ hk_ hS => ?_)
            subst hw_
            have hP := vP_kept hP (fun q h => hk_ q h (fun z => z))
            refine lv_bipush (v := (-72)) hx hb dL_keeps_435 (by decide +kernel) ?_
            refine lv_icmp_ne (tgt := 469) hx hb dL_keeps_437 (by decide) (fun c_437 => absurd rfl c_437) (fun c_437 => ?_)
            have hj_471 : ∀ (H : Heap) (locs : List Loc), va_P dD vwCl (lW cI la σ ++ xW cI cR cS x0 b ra sb hd ol σ) H → va_D (kA cI cR cS la x0 b ra sb hd ol σ s.heap.size) (lW cI la σ ++ xW cI cR cS x0 b ra sb hd ol σ) → va_S (kA cI cR cS la x0 b ra sb hd ol σ s.heap.size) s.heap H locs → ∀ (ls : Array Slot), lv_has ls 17 [(14, .int (nI (pN (10 * f + e)))), (0, .ref x0), (1, .int (nI ac)), (2, .int y), (3, .int z), (4, .ref (la 0)), (5, .ref (la 1)), (6, .ref (la 2)), (7, .ref (la 3)), (8, .ref (la 4)), (9, .ref (la 5)), (10, .ref (la 6)), (11, .ref (la 7)), (12, .int (nI f)), (13, .int (nI e)), (15, .int (nI tm))] → W p l e_ (headSpec wsL_keeps ({ frames := 10, cells := 60, slots := 400, locals := 176 })).room s m (([.ref x0, .int (nI ac), .int y, .int z, .ref (la 0), .ref (la 1), .ref (la 2), .ref (la 3), .ref (la 4), .ref (la 5), .ref (la 6), .ref (la 7)] : List Value).toArray) below meth c H locs (0 + 6) (0 + 36) (MQ below (kQ dD cI cR cS la x0 b (kA cI cR cS la x0 b ra sb hd ol σ s.heap.size)) (([.ref x0, .int (nI ac), .int y, .int z, .ref (la 0), .ref (la 1), .ref (la 2), .ref (la 3), .ref (la 4), .ref (la 5), .ref (la 6), .ref (la 7)] : List Value).toArray) s 60 400 (kA cI cR cS la x0 b ra sb hd ol σ s.heap.size)) (F0 m 471 ls []) := by
              intro H locs hP hD hS ls hl
              refine lv_aload hx hb dL_keeps_471 (lv_at hl 12 rfl) ?_
              refine lv_iconst (v := nI 0) hx hb dL_keeps_473 (by decide +kernel) ?_
              refine nv_ialdE (q0 := 7) (t0 := 0) (v := s_now σ) (l_g σ) (rfl) hx hb hK hP rfl rfl (by decide) (by decide) dL_keeps_474 ?_
              refine lv_iload hx hb dL_keeps_475 (lv_at hl 15 rfl) ?_
              refine nv_iadd hx hb dL_keeps_477 ?_
              refine lv_sipush (v := nI 10000) hx hb dL_keeps_478 (by decide +kernel) ?_
              refine nv_le (tgt := 501) hx hb dL_keeps_481 (by decide) (by omega) (by omega) (fun c_481 => ?_) (fun c_481 => ?_)
              · refine lv_aload hx hb dL_keeps_501 (lv_at hl 12 rfl) ?_
                refine lv_iconst (v := nI 0) hx hb dL_keeps_503 (by decide +kernel) ?_
                refine lv_dup2_11 hx hb dL_keeps_504 rfl rfl ?_
                refine nv_ialdE (q0 := 7) (t0 := 0) (v := s_now σ) (l_g σ) (rfl) hx hb hK hP rfl rfl (by decide) (by decide) dL_keeps_505 ?_
                refine lv_iload hx hb dL_keeps_506 (lv_at hl 15 rfl) ?_
                refine nv_iadd hx hb dL_keeps_508 ?_
                refine nv_iast (q0 := 7) (t0 := 0) (l_g σ) hx hb hK hP hD hS rfl rfl (by omega) (by decide) dL_keeps_509 (fun H locs hP hD hS => ?_)
                have hP : va_P dD vwCl ([(la 0, .inl (cI, 60, .inl (fun j => nI (l_p σ j)))), (la 1, .inl (cI, 60, .inl (fun j => nI (s_ev σ j)))), (la 2, .inl (cI, 60, .inl (fun j => nI (s_ar σ j)))), (la 3, .inl (cI, 60, .inl (fun j => nI (s_vl σ j)))), (la 4, .inl (cI, 6, .inl (fun j => nI (s_lt σ j)))), (la 5, .inl (cI, 60, .inl (fun j => nI (l_q σ j)))), (la 6, .inl (cI, 60, .inl (fun j => eN (s_sv σ j)))), (la 7, .inl (cI, 4, .inl (fun j => nI ((uN (l_g σ) 0 ((s_now σ) + tm)) j))))] ++ xW cI cR cS x0 b ra sb hd ol σ) H := hP
                have hD : va_D (kA cI cR cS la x0 b ra sb hd ol σ s.heap.size) ([(la 0, .inl (cI, 60, .inl (fun j => nI (l_p σ j)))), (la 1, .inl (cI, 60, .inl (fun j => nI (s_ev σ j)))), (la 2, .inl (cI, 60, .inl (fun j => nI (s_ar σ j)))), (la 3, .inl (cI, 60, .inl (fun j => nI (s_vl σ j)))), (la 4, .inl (cI, 6, .inl (fun j => nI (s_lt σ j)))), (la 5, .inl (cI, 60, .inl (fun j => nI (l_q σ j)))), (la 6, .inl (cI, 60, .inl (fun j => eN (s_sv σ j)))), (la 7, .inl (cI, 4, .inl (fun j => nI ((uN (l_g σ) 0 ((s_now σ) + tm)) j))))] ++ xW cI cR cS x0 b ra sb hd ol σ) := hD
                refine lv_aload_n hx hb dL_keeps_510 rfl (lv_at hl 1 rfl) ?_
                refine lv_iload hx hb dL_keeps_511 (lv_at hl 15 rfl) ?_
                have hAH : ∀ q : Nat, H.size ≤ q → (kA cI cR cS la x0 b ra sb hd ol σ s.heap.size) q := fun q h => hA q (Nat.le_trans hS.1 h)
                have hFc := fr_freeR (w1 := xW cI cR cS x0 b ra sb hd ol σ) (w2 := [(la 0, .inl (cI, 60, .inl (fun j => nI (l_p σ j)))), (la 1, .inl (cI, 60, .inl (fun j => nI (s_ev σ j)))), (la 2, .inl (cI, 60, .inl (fun j => nI (s_ar σ j)))), (la 3, .inl (cI, 60, .inl (fun j => nI (s_vl σ j)))), (la 4, .inl (cI, 6, .inl (fun j => nI (s_lt σ j)))), (la 5, .inl (cI, 60, .inl (fun j => nI (l_q σ j)))), (la 6, .inl (cI, 60, .inl (fun j => eN (s_sv σ j)))), (la 7, .inl (cI, 4, .inl (fun j => nI ((uN (l_g σ) 0 ((s_now σ) + tm)) j))))]) hD hAH
                refine va_calli (vx_runSW (As := [.ref x0, .int (nI tm)]) (rest := []) ⟨hx, hb, hml, hown, hts⟩ (c_L_pass_ok l dD cI cR cS lo hfl H.size (Nat.le_trans hlo hS.1) x0 b ra sb hd ol σ hI hX hJ (nI tm) (⟨rg_n (by omega) (by omega) (by decide), by rw [cl_nI (by omega)]; omega⟩)) (vx_cwSW 2 hts gL_keeps_L_pass rfl rfl rfl (by decide +kernel) ⟨Nat.le_of_ble_eq_true rfl, Nat.le_of_ble_eq_true rfl⟩) (ePreS hE (hS.mono hAlo) ⟨rfl, vP_app2 hP, vD_mono (vD_app2 hD) hAlo⟩) rfl rfl hl.1 rfl (lv_room (Nat.le_of_ble_eq_true rfl)) dL_keeps_513 ⟨(by omega : 0 + 6 + 2 ≤ 60), (by omega : 0 + 36 + 12 ≤ 400)⟩) hS (fun q _ h => hFc q h) hFc (fun r_ u_ t_ H1 locs ht_ hvm_ hw_ hB_ hz_ hk_ hS => ?_)
                obtain ⟨ra', sb', hd', ol'⟩ := u_
                have eG : g_pass σ (cl (nI tm)) = g_pass σ tm := by rw [cl_nI (show tm < 2 ^ 31 by omega)]
                rw [eG] at hw_ hB_
                obtain ⟨hr_, hI', hX', hJ'⟩ := hw_
                have hr_ : r_ = nI ((s_now σ) + tm) := hr_.trans (by rw [cl_nI (show tm < 2 ^ 31 by omega)])
                subst hr_
                obtain ⟨hP, hD⟩ := fr_joinR (w1 := xW cI cR cS x0 b ra sb hd ol σ) (w1' := (xW cI cR cS x0 b ra' sb' hd' ol' (g_pass σ tm))) (w2 := [(la 0, .inl (cI, 60, .inl (fun j => nI (l_p σ j)))), (la 1, .inl (cI, 60, .inl (fun j => nI (s_ev σ j)))), (la 2, .inl (cI, 60, .inl (fun j => nI (s_ar σ j)))), (la 3, .inl (cI, 60, .inl (fun j => nI (s_vl σ j)))), (la 4, .inl (cI, 6, .inl (fun j => nI (s_lt σ j)))), (la 5, .inl (cI, 60, .inl (fun j => nI (l_q σ j)))), (la 6, .inl (cI, 60, .inl (fun j => eN (s_sv σ j)))), (la 7, .inl (cI, 4, .inl (fun j => nI ((uN (l_g σ) 0 ((s_now σ) + tm)) j))))]) hP hD hAH hk_ (by rw [← ht_]; exact hB_.1) hB_.2
                have hP : va_P dD vwCl ([(la 0, .inl (cI, 60, .inl (fun j => nI (l_p σ j)))), (la 1, .inl (cI, 60, .inl (fun j => nI (s_ev σ j)))), (la 2, .inl (cI, 60, .inl (fun j => nI (s_ar σ j)))), (la 3, .inl (cI, 60, .inl (fun j => nI (s_vl σ j)))), (la 4, .inl (cI, 6, .inl (fun j => nI (s_lt σ j)))), (la 5, .inl (cI, 60, .inl (fun j => nI (l_q σ j)))), (la 6, .inl (cI, 60, .inl (fun j => eN (s_sv σ j)))), (la 7, .inl (cI, 4, .inl (fun j => nI ((uN (l_g σ) 0 ((s_now σ) + tm)) j))))] ++ (xW cI cR cS x0 b ra' sb' hd' ol' (g_pass σ tm))) H1 := hP
                have hD : va_D (kA cI cR cS la x0 b ra sb hd ol σ s.heap.size) ([(la 0, .inl (cI, 60, .inl (fun j => nI (l_p σ j)))), (la 1, .inl (cI, 60, .inl (fun j => nI (s_ev σ j)))), (la 2, .inl (cI, 60, .inl (fun j => nI (s_ar σ j)))), (la 3, .inl (cI, 60, .inl (fun j => nI (s_vl σ j)))), (la 4, .inl (cI, 6, .inl (fun j => nI (s_lt σ j)))), (la 5, .inl (cI, 60, .inl (fun j => nI (l_q σ j)))), (la 6, .inl (cI, 60, .inl (fun j => eN (s_sv σ j)))), (la 7, .inl (cI, 4, .inl (fun j => nI ((uN (l_g σ) 0 ((s_now σ) + tm)) j))))] ++ (xW cI cR cS x0 b ra' sb' hd' ol' (g_pass σ tm))) := hD
                have hL' : lI (g_pass σ tm) := lI_pass hI hL
                refine lv_aload hx hb dL_keeps_516 (lv_at hl 12 rfl) ?_
                refine lv_iconst (v := nI 0) hx hb dL_keeps_518 (by decide +kernel) ?_
                refine nv_ialdE (q0 := 7) (t0 := 0) (v := (s_now σ) + tm) (uN (l_g σ) 0 ((s_now σ) + tm)) (uN_s) hx hb hK hP rfl rfl (by decide) (by decide) dL_keeps_519 ?_
                refine lv_icmp_ne (tgt := 527) hx hb dL_keeps_520 (by decide) (fun c_520 => absurd rfl c_520) (fun c_520 => ?_)
                refine lv_iconst (v := nI 1) hx hb dL_keeps_523 (by decide +kernel) ?_
                refine lv_goto (tgt := 528) hx hb dL_keeps_524 (by decide) ?_
                have eW : lW cI la (g_pass σ tm) = [(la 0, .inl (cI, 60, .inl (fun j => nI (l_p σ j)))), (la 1, .inl (cI, 60, .inl (fun j => nI (s_ev σ j)))), (la 2, .inl (cI, 60, .inl (fun j => nI (s_ar σ j)))), (la 3, .inl (cI, 60, .inl (fun j => nI (s_vl σ j)))), (la 4, .inl (cI, 6, .inl (fun j => nI (s_lt σ j)))), (la 5, .inl (cI, 60, .inl (fun j => nI (l_q σ j)))), (la 6, .inl (cI, 60, .inl (fun j => eN (s_sv σ j)))), (la 7, .inl (cI, 4, .inl (fun j => nI ((uN (l_g σ) 0 ((s_now σ) + tm)) j))))] := by
                  show ([(la 0, .inl (cI, 60, .inl (fun j => nI ((l_p (g_pass σ tm)) j)))), (la 1, .inl (cI, 60, .inl (fun j => nI ((s_ev (g_pass σ tm)) j)))), (la 2, .inl (cI, 60, .inl (fun j => nI ((s_ar (g_pass σ tm)) j)))), (la 3, .inl (cI, 60, .inl (fun j => nI ((s_vl (g_pass σ tm)) j)))), (la 4, .inl (cI, 6, .inl (fun j => nI ((s_lt (g_pass σ tm)) j)))), (la 5, .inl (cI, 60, .inl (fun j => nI ((l_q (g_pass σ tm)) j)))), (la 6, .inl (cI, 60, .inl (fun j => eN ((s_sv (g_pass σ tm)) j)))), (la 7, .inl (cI, 4, .inl (fun j => nI ((l_g (g_pass σ tm)) j))))] : va_W) = _
                  rw [l_g_pass] <;> rfl
                refine W.widen (k := 60) (n := 400) (by omega) (by omega) ?_
                exact W.zret (v := nI 1) hx hb hr rfl (fun u9 hu9 hW => ⟨⟨nI 1, (g_pass σ tm, ra', sb', hd', ol'), rfl, ⟨rfl, ⟨hI', hX', hJ', hL'⟩⟩, by have h9 := hP; rw [← hu9] at h9; rw [← eW] at h9 hD; exact ⟨h9, hD⟩⟩, hS.F hu9⟩) hS.2.2 dL_keeps_528
              · refine lv_aload_n hx hb dL_keeps_484 rfl (lv_at hl 1 rfl) ?_
                refine lv_iload hx hb dL_keeps_485 (lv_at hl 15 rfl) ?_
                have hAH : ∀ q : Nat, H.size ≤ q → (kA cI cR cS la x0 b ra sb hd ol σ s.heap.size) q := fun q h => hA q (Nat.le_trans hS.1 h)
                have hFc := fr_freeR (w1 := xW cI cR cS x0 b ra sb hd ol σ) (w2 := lW cI la σ) hD hAH
                refine va_calli (vx_runSW (As := [.ref x0, .int (nI tm)]) (rest := []) ⟨hx, hb, hml, hown, hts⟩ (c_L_pass_st l dD cI cR cS lo hfl H.size (Nat.le_trans hlo hS.1) x0 b ra sb hd ol σ hI hX hJ (nI tm) (⟨rg_n (by omega) (by omega) (by decide), by rw [cl_nI (by omega)]; omega⟩)) (vx_cwSW 2 hts gL_keeps_L_pass rfl rfl rfl (by decide +kernel) ⟨Nat.le_of_ble_eq_true rfl, Nat.le_of_ble_eq_true rfl⟩) (ePreS hE (hS.mono hAlo) ⟨rfl, vP_app2 hP, vD_mono (vD_app2 hD) hAlo⟩) rfl rfl hl.1 rfl (lv_room (Nat.le_of_ble_eq_true rfl)) dL_keeps_487 ⟨(by omega : 0 + 6 + 2 ≤ 60), (by omega : 0 + 36 + 12 ≤ 400)⟩) hS (fun q _ h => h.elim) hFc (fun r_ u_ t_ H1 locs ht_ hvm_ hw_ hB_ hz_ hk_ hS => ?_)
                subst hw_
                have hP := vP_kept hP (fun q h => hk_ q h (fun z => z))
                refine lv_bipush (v := (-73)) hx hb dL_keeps_490 (by decide +kernel) ?_
                refine lv_icmp_ne (tgt := 499) hx hb dL_keeps_492 (by decide) (fun c_492 => absurd rfl c_492) (fun c_492 => ?_)
                refine lv_iconst (v := nI 1) hx hb dL_keeps_495 (by decide +kernel) ?_
                refine lv_goto (tgt := 500) hx hb dL_keeps_496 (by decide) ?_
                refine W.widen (k := 60) (n := 400) (by omega) (by omega) ?_
                exact W.zret (v := nI 1) hx hb hr rfl (fun u9 hu9 hW => ⟨⟨nI 1, (σ, ra, sb, hd, ol), rfl, ⟨rfl, ⟨hI, hX, hJ, hL⟩⟩, by have h9 := hP; rw [← hu9] at h9; exact ⟨h9, hD⟩⟩, hS.F hu9⟩) hS.2.2 dL_keeps_500
            rcases Nat.eq_zero_or_pos (s_now σ) with h0 | h0
            · refine lv_aload_n hx hb dL_keeps_440 rfl (lv_at hl 1 rfl) ?_
              refine lv_sipush (v := nI 10001) hx hb dL_keeps_441 (by decide +kernel) ?_
              refine lv_aload hx hb dL_keeps_444 (lv_at hl 12 rfl) ?_
              refine lv_iconst (v := nI 0) hx hb dL_keeps_446 (by decide +kernel) ?_
              refine nv_ialdE (q0 := 7) (t0 := 0) (v := s_now σ) (l_g σ) (rfl) hx hb hK hP rfl rfl (by decide) (by decide) dL_keeps_447 ?_
              refine nv_isub hx hb dL_keeps_448 (by omega) ?_
              have hAH : ∀ q : Nat, H1.size ≤ q → (kA cI cR cS la x0 b ra sb hd ol σ s.heap.size) q := fun q h => hA q (Nat.le_trans hS.1 h)
              have hFc := fr_freeR (w1 := xW cI cR cS x0 b ra sb hd ol σ) (w2 := lW cI la σ) hD hAH
              refine va_calli (vx_runSW (As := [.ref x0, .int (nI (10001 - (s_now σ)))]) (rest := []) ⟨hx, hb, hml, hown, hts⟩ (c_L_pass_no l dD cI cR cS lo hfl H1.size (Nat.le_trans hlo hS.1) x0 b ra sb hd ol σ hI hX hJ (nI (10001 - (s_now σ))) (rg_x (by omega) (by omega) (by decide) (by decide))) (vx_cwSW 2 hts gL_keeps_L_pass rfl rfl rfl (by decide +kernel) ⟨Nat.le_of_ble_eq_true rfl, Nat.le_of_ble_eq_true rfl⟩) (ePreS hE (hS.mono hAlo) ⟨rfl, vP_app2 hP, vD_mono (vD_app2 hD) hAlo⟩) rfl rfl hl.1 rfl (lv_room (Nat.le_of_ble_eq_true rfl)) dL_keeps_449 ⟨(by omega : 0 + 2 + 2 + 2 ≤ 60), (by omega : 0 + 12 + 12 + 12 ≤ 400)⟩) hS (fun q _ h => h.elim) hFc (fun r_ u_ t_ H1 locs ht_ hvm_ hw_ hB_ hz_ hk_ hS => ?_)
              subst hw_
              have hP := vP_kept hP (fun q h => hk_ q h (fun z => z))
              refine lv_aload hx hb dL_keeps_452 (lv_at hl 12 rfl) ?_
              refine lv_iconst (v := nI 0) hx hb dL_keeps_454 (by decide +kernel) ?_
              refine nv_ialdE (q0 := 7) (t0 := 0) (v := s_now σ) (l_g σ) (rfl) hx hb hK hP rfl rfl (by decide) (by decide) dL_keeps_455 ?_
              refine nv_if_ne (tgt := 464) hx hb dL_keeps_456 (by decide) (by omega) (fun c_456 => absurd h0 c_456) (fun c_456 => ?_)
              refine lv_bipush (v := (-72)) hx hb dL_keeps_459 (by decide +kernel) ?_
              refine lv_goto (tgt := 466) hx hb dL_keeps_461 (by decide) ?_
              refine lv_icmp_eq (tgt := 471) hx hb dL_keeps_466 (by decide) (fun c_466 => ?_) (fun c_466 => absurd rfl c_466)
              refine W.widen (k := 0 + 6) (n := 0 + 36) (by omega) (by omega) ?_
              exact hj_471 _ _ hP hD hS ls (lv_sub hl [0, 1, 2, 3, 4, 5, 6, 7, 8, 9, 10, 11, 12, 13, 14, 15] rfl)
            · refine lv_aload_n hx hb dL_keeps_440 rfl (lv_at hl 1 rfl) ?_
              refine lv_sipush (v := nI 10001) hx hb dL_keeps_441 (by decide +kernel) ?_
              refine lv_aload hx hb dL_keeps_444 (lv_at hl 12 rfl) ?_
              refine lv_iconst (v := nI 0) hx hb dL_keeps_446 (by decide +kernel) ?_
              refine nv_ialdE (q0 := 7) (t0 := 0) (v := s_now σ) (l_g σ) (rfl) hx hb hK hP rfl rfl (by decide) (by decide) dL_keeps_447 ?_
              refine nv_isub hx hb dL_keeps_448 (by omega) ?_
              have hAH : ∀ q : Nat, H1.size ≤ q → (kA cI cR cS la x0 b ra sb hd ol σ s.heap.size) q := fun q h => hA q (Nat.le_trans hS.1 h)
              have hFc := fr_freeR (w1 := xW cI cR cS x0 b ra sb hd ol σ) (w2 := lW cI la σ) hD hAH
              refine va_calli (vx_runSW (As := [.ref x0, .int (nI (10001 - (s_now σ)))]) (rest := []) ⟨hx, hb, hml, hown, hts⟩ (c_L_pass_st l dD cI cR cS lo hfl H1.size (Nat.le_trans hlo hS.1) x0 b ra sb hd ol σ hI hX hJ (nI (10001 - (s_now σ))) (⟨rg_n (by omega) (by omega) (by decide), by rw [cl_nI (by omega)]; omega⟩)) (vx_cwSW 2 hts gL_keeps_L_pass rfl rfl rfl (by decide +kernel) ⟨Nat.le_of_ble_eq_true rfl, Nat.le_of_ble_eq_true rfl⟩) (ePreS hE (hS.mono hAlo) ⟨rfl, vP_app2 hP, vD_mono (vD_app2 hD) hAlo⟩) rfl rfl hl.1 rfl (lv_room (Nat.le_of_ble_eq_true rfl)) dL_keeps_449 ⟨(by omega : 0 + 2 + 2 + 2 ≤ 60), (by omega : 0 + 12 + 12 + 12 ≤ 400)⟩) hS (fun q _ h => h.elim) hFc (fun r_ u_ t_ H1 locs ht_ hvm_ hw_ hB_ hz_ hk_ hS => ?_)
              subst hw_
              have hP := vP_kept hP (fun q h => hk_ q h (fun z => z))
              refine lv_aload hx hb dL_keeps_452 (lv_at hl 12 rfl) ?_
              refine lv_iconst (v := nI 0) hx hb dL_keeps_454 (by decide +kernel) ?_
              refine nv_ialdE (q0 := 7) (t0 := 0) (v := s_now σ) (l_g σ) (rfl) hx hb hK hP rfl rfl (by decide) (by decide) dL_keeps_455 ?_
              refine nv_if_ne (tgt := 464) hx hb dL_keeps_456 (by decide) (by omega) (fun c_456 => ?_) (fun c_456 => absurd c_456 (by omega))
              refine lv_bipush (v := (-73)) hx hb dL_keeps_464 (by decide +kernel) ?_
              refine lv_icmp_eq (tgt := 471) hx hb dL_keeps_466 (by decide) (fun c_466 => ?_) (fun c_466 => absurd rfl c_466)
              refine W.widen (k := 0 + 6) (n := 0 + 36) (by omega) (by omega) ?_
              exact hj_471 _ _ hP hD hS ls (lv_sub hl [0, 1, 2, 3, 4, 5, 6, 7, 8, 9, 10, 11, 12, 13, 14, 15] rfl)
          refine lv_iconst (v := nI 1) hx hb dL_keeps_394 (by decide +kernel) ?_
          refine lv_iload_n hx hb dL_keeps_395 rfl (lv_at hl 4 rfl) ?_
          refine lv_iload_n hx hb dL_keeps_396 rfl (lv_at hl 4 rfl) ?_
          refine lv_sipush (v := nI 192) hx hb dL_keeps_397 (by decide +kernel) ?_
          refine lv_iand hx hb dL_keeps_400 ?_
          refine lv_if_ne (tgt := 410) hx hb dL_keeps_401 (by decide) (fun c_401 => ?_) (fun c_401 => ?_)
          · refine lv_bipush (v := nI 20) hx hb dL_keeps_410 (by decide +kernel) ?_
            refine vp_callSi (va_Run.run (va_runS (As := [.int z, .int (nI 20)]) (rest := [.int (nI 1)]) ⟨hx, hb, hml, hown, hts⟩ (c_L_low l dD cI cR cS lo z (20) (by omega) (by omega)) (va_cwS 2 hts gL_keeps_L_low rfl rfl rfl (by decide +kernel) ⟨Nat.le_of_ble_eq_true rfl, Nat.le_of_ble_eq_true rfl⟩) (ePreS hE (hS.mono hAlo) trivial) rfl rfl hl.1 rfl (lv_room (Nat.le_of_ble_eq_true rfl)) dL_keeps_412 ⟨(by omega : 0 + 0 ≤ 60), (by omega : 0 + 0 ≤ 400)⟩)) (fun r_412 hr_412 => ?_)
            obtain ⟨j, hj, rfl⟩ := hr_412
            refine nv_iadd hx hb dL_keeps_415 ?_
            refine lv_istore (lv' := [(15, .int (nI (1 + j))), (14, .int (nI (pN (10 * f + e)))), (0, .ref x0), (1, .int (nI ac)), (2, .int y), (3, .int z), (4, .ref (la 0)), (5, .ref (la 1)), (6, .ref (la 2)), (7, .ref (la 3)), (8, .ref (la 4)), (9, .ref (la 5)), (10, .ref (la 6)), (11, .ref (la 7)), (12, .int (nI f)), (13, .int (nI e))]) hx hb dL_keeps_416 hl (by decide) rfl (fun ls hl => ?_)
            exact hj_418 (1 + j) (by omega) (by omega) _ _ hP hD hS ls (lv_sub hl [1, 2, 3, 4, 5, 6, 7, 8, 9, 10, 11, 12, 13, 14, 15, 0] rfl)
          · refine lv_sipush (v := nI 400) hx hb dL_keeps_404 (by decide +kernel) ?_
            refine lv_goto (tgt := 412) hx hb dL_keeps_407 (by decide) ?_
            refine vp_callSi (va_Run.run (va_runS (As := [.int z, .int (nI 400)]) (rest := [.int (nI 1)]) ⟨hx, hb, hml, hown, hts⟩ (c_L_low l dD cI cR cS lo z (400) (by omega) (by omega)) (va_cwS 2 hts gL_keeps_L_low rfl rfl rfl (by decide +kernel) ⟨Nat.le_of_ble_eq_true rfl, Nat.le_of_ble_eq_true rfl⟩) (ePreS hE (hS.mono hAlo) trivial) rfl rfl hl.1 rfl (lv_room (Nat.le_of_ble_eq_true rfl)) dL_keeps_412 ⟨(by omega : 0 + 0 ≤ 60), (by omega : 0 + 0 ≤ 400)⟩)) (fun r_412 hr_412 => ?_)
            obtain ⟨j, hj, rfl⟩ := hr_412
            refine nv_iadd hx hb dL_keeps_415 ?_
            refine lv_istore (lv' := [(15, .int (nI (1 + j))), (14, .int (nI (pN (10 * f + e)))), (0, .ref x0), (1, .int (nI ac)), (2, .int y), (3, .int z), (4, .ref (la 0)), (5, .ref (la 1)), (6, .ref (la 2)), (7, .ref (la 3)), (8, .ref (la 4)), (9, .ref (la 5)), (10, .ref (la 6)), (11, .ref (la 7)), (12, .int (nI f)), (13, .int (nI e))]) hx hb dL_keeps_416 hl (by decide) rfl (fun ls hl => ?_)
            exact hj_418 (1 + j) (by omega) (by omega) _ _ hP hD hS ls (lv_sub hl [1, 2, 3, 4, 5, 6, 7, 8, 9, 10, 11, 12, 13, 14, 15, 0] rfl)
      · have hj_138 : ∀ (ev : Nat) (_ : ev ≤ s_now σ) (H : Heap) (locs : List Loc), va_P dD vwCl (lW cI la σ ++ xW cI cR cS x0 b ra sb hd ol σ) H → va_D (kA cI cR cS la x0 b ra sb hd ol σ s.heap.size) (lW cI la σ ++ xW cI cR cS x0 b ra sb hd ol σ) → va_S (kA cI cR cS la x0 b ra sb hd ol σ s.heap.size) s.heap H locs → ∀ (ls : Array Slot), lv_has ls 17 [(14, .int (nI (pN (10 * f + e)))), (0, .ref x0), (1, .int (nI ac)), (2, .int y), (3, .int z), (4, .ref (la 0)), (5, .ref (la 1)), (6, .ref (la 2)), (7, .ref (la 3)), (8, .ref (la 4)), (9, .ref (la 5)), (10, .ref (la 6)), (11, .ref (la 7)), (12, .int (nI f)), (13, .int (nI e)), (15, .int (nI ev))] → W p l e_ (headSpec wsL_keeps ({ frames := 10, cells := 60, slots := 400, locals := 176 })).room s m (([.ref x0, .int (nI ac), .int y, .int z, .ref (la 0), .ref (la 1), .ref (la 2), .ref (la 3), .ref (la 4), .ref (la 5), .ref (la 6), .ref (la 7)] : List Value).toArray) below meth c H locs (0) (0) (MQ below (kQ dD cI cR cS la x0 b (kA cI cR cS la x0 b ra sb hd ol σ s.heap.size)) (([.ref x0, .int (nI ac), .int y, .int z, .ref (la 0), .ref (la 1), .ref (la 2), .ref (la 3), .ref (la 4), .ref (la 5), .ref (la 6), .ref (la 7)] : List Value).toArray) s 60 400 (kA cI cR cS la x0 b ra sb hd ol σ s.heap.size)) (F0 m 138 ls []) := by
          intro ev hev H locs hP hD hS ls hl
          have hj_169 : ∀ (v : Nat) (_ : v ≤ 100000) (H : Heap) (locs : List Loc), va_P dD vwCl (lW cI la σ ++ xW cI cR cS x0 b ra sb hd ol σ) H → va_D (kA cI cR cS la x0 b ra sb hd ol σ s.heap.size) (lW cI la σ ++ xW cI cR cS x0 b ra sb hd ol σ) → va_S (kA cI cR cS la x0 b ra sb hd ol σ s.heap.size) s.heap H locs → ∀ (ls : Array Slot), lv_has ls 17 [(14, .int (nI (pN (10 * f + e)))), (0, .ref x0), (1, .int (nI ac)), (2, .int y), (3, .int z), (4, .ref (la 0)), (5, .ref (la 1)), (6, .ref (la 2)), (7, .ref (la 3)), (8, .ref (la 4)), (9, .ref (la 5)), (10, .ref (la 6)), (11, .ref (la 7)), (12, .int (nI f)), (13, .int (nI e)), (15, .int (nI ev)), (16, .int (nI v))] → W p l e_ (headSpec wsL_keeps ({ frames := 10, cells := 60, slots := 400, locals := 176 })).room s m (([.ref x0, .int (nI ac), .int y, .int z, .ref (la 0), .ref (la 1), .ref (la 2), .ref (la 3), .ref (la 4), .ref (la 5), .ref (la 6), .ref (la 7)] : List Value).toArray) below meth c H locs (0) (0) (MQ below (kQ dD cI cR cS la x0 b (kA cI cR cS la x0 b ra sb hd ol σ s.heap.size)) (([.ref x0, .int (nI ac), .int y, .int z, .ref (la 0), .ref (la 1), .ref (la 2), .ref (la 3), .ref (la 4), .ref (la 5), .ref (la 6), .ref (la 7)] : List Value).toArray) s 60 400 (kA cI cR cS la x0 b ra sb hd ol σ s.heap.size)) (F0 m 169 ls []) := by
            intro v hv H locs hP hD hS ls hl
            refine lv_aload_n hx hb dL_keeps_169 rfl (lv_at hl 1 rfl) ?_
            refine lv_bipush (v := nI 6) hx hb dL_keeps_170 (by decide +kernel) ?_
            refine lv_iload hx hb dL_keeps_172 (lv_at hl 14 rfl) ?_
            refine lv_iload hx hb dL_keeps_174 (lv_at hl 15 rfl) ?_
            refine lv_iload hx hb dL_keeps_176 (lv_at hl 16 rfl) ?_
            have hAH : ∀ q : Nat, H.size ≤ q → (kA cI cR cS la x0 b ra sb hd ol σ s.heap.size) q := fun q h => hA q (Nat.le_trans hS.1 h)
            have hFc := fr_freeR (w1 := xW cI cR cS x0 b ra sb hd ol σ) (w2 := lW cI la σ) hD hAH
            refine va_calli (vx_runSW (As := [.ref x0, .int (nI 6), .int (nI e), .int (nI ev), .int (nI v)]) (rest := []) ⟨hx, hb, hml, hown, hts⟩ (c_L_arrive_no l dD cI cR cS lo hfl H.size (Nat.le_trans hlo hS.1) x0 b ra sb hd ol σ hI hX hJ (nI 6) (nI e) (nI ev) (nI v) (fun z => absurd z.1.1 (rg_x (by omega) (by omega) (by decide) (by omega)))) (vx_cwSW 5 hts gL_keeps_L_arrive rfl rfl rfl (by decide +kernel) ⟨Nat.le_of_ble_eq_true rfl, Nat.le_of_ble_eq_true rfl⟩) (ePreS hE (hS.mono hAlo) ⟨rfl, vP_app2 hP, vD_mono (vD_app2 hD) hAlo⟩) rfl rfl hl.1 rfl (lv_room (Nat.le_of_ble_eq_true rfl)) dL_keeps_178 ⟨(by omega : 0 + 5 ≤ 60), (by omega : 0 + 31 ≤ 400)⟩) hS (fun q _ h => h.elim) hFc (fun r_ u_ t_ H1 locs ht_ hvm_ hw_ hB_ hz_ hk_ hS => ?_)
            subst hw_
            have hP := vP_kept hP (fun q h => hk_ q h (fun z => z))
            refine lv_bipush (v := (-72)) hx hb dL_keeps_181 (by decide +kernel) ?_
            refine lv_icmp_ne (tgt := 289) hx hb dL_keeps_183 (by decide) (fun c_183 => absurd rfl c_183) (fun c_183 => ?_)
            refine lv_aload_n hx hb dL_keeps_186 rfl (lv_at hl 1 rfl) ?_
            refine lv_iload hx hb dL_keeps_187 (lv_at hl 13 rfl) ?_
            refine lv_bipush (v := nI 10) hx hb dL_keeps_189 (by decide +kernel) ?_
            refine lv_iload hx hb dL_keeps_191 (lv_at hl 15 rfl) ?_
            refine lv_iload hx hb dL_keeps_193 (lv_at hl 16 rfl) ?_
            have hAH : ∀ q : Nat, H1.size ≤ q → (kA cI cR cS la x0 b ra sb hd ol σ s.heap.size) q := fun q h => hA q (Nat.le_trans hS.1 h)
            have hFc := fr_freeR (w1 := xW cI cR cS x0 b ra sb hd ol σ) (w2 := lW cI la σ) hD hAH
            refine va_calli (vx_runSW (As := [.ref x0, .int (nI f), .int (nI 10), .int (nI ev), .int (nI v)]) (rest := []) ⟨hx, hb, hml, hown, hts⟩ (c_L_arrive_no l dD cI cR cS lo hfl H1.size (Nat.le_trans hlo hS.1) x0 b ra sb hd ol σ hI hX hJ (nI f) (nI 10) (nI ev) (nI v) (fun z => absurd z.1.2 (rg_x (by omega) (by omega) (by decide) (by omega)))) (vx_cwSW 5 hts gL_keeps_L_arrive rfl rfl rfl (by decide +kernel) ⟨Nat.le_of_ble_eq_true rfl, Nat.le_of_ble_eq_true rfl⟩) (ePreS hE (hS.mono hAlo) ⟨rfl, vP_app2 hP, vD_mono (vD_app2 hD) hAlo⟩) rfl rfl hl.1 rfl (lv_room (Nat.le_of_ble_eq_true rfl)) dL_keeps_195 ⟨(by omega : 0 + 5 + 5 ≤ 60), (by omega : 0 + 31 + 31 ≤ 400)⟩) hS (fun q _ h => h.elim) hFc (fun r_ u_ t_ H1 locs ht_ hvm_ hw_ hB_ hz_ hk_ hS => ?_)
            subst hw_
            have hP := vP_kept hP (fun q h => hk_ q h (fun z => z))
            refine lv_bipush (v := (-72)) hx hb dL_keeps_198 (by decide +kernel) ?_
            refine lv_icmp_ne (tgt := 289) hx hb dL_keeps_200 (by decide) (fun c_200 => absurd rfl c_200) (fun c_200 => ?_)
            refine lv_aload_n hx hb dL_keeps_203 rfl (lv_at hl 1 rfl) ?_
            refine lv_iload hx hb dL_keeps_204 (lv_at hl 13 rfl) ?_
            refine lv_iload hx hb dL_keeps_206 (lv_at hl 14 rfl) ?_
            refine lv_aload hx hb dL_keeps_208 (lv_at hl 12 rfl) ?_
            refine lv_iconst (v := nI 0) hx hb dL_keeps_210 (by decide +kernel) ?_
            refine nv_ialdE (q0 := 7) (t0 := 0) (v := s_now σ) (l_g σ) (rfl) hx hb hK hP rfl rfl (by decide) (by decide) dL_keeps_211 ?_
            refine lv_iconst (v := nI 1) hx hb dL_keeps_212 (by decide +kernel) ?_
            refine nv_iadd hx hb dL_keeps_213 ?_
            refine lv_iload hx hb dL_keeps_214 (lv_at hl 16 rfl) ?_
            have hAH : ∀ q : Nat, H1.size ≤ q → (kA cI cR cS la x0 b ra sb hd ol σ s.heap.size) q := fun q h => hA q (Nat.le_trans hS.1 h)
            have hFc := fr_freeR (w1 := xW cI cR cS x0 b ra sb hd ol σ) (w2 := lW cI la σ) hD hAH
            refine va_calli (vx_runSW (As := [.ref x0, .int (nI f), .int (nI e), .int (nI ((s_now σ) + 1)), .int (nI v)]) (rest := []) ⟨hx, hb, hml, hown, hts⟩ (c_L_arrive_no l dD cI cR cS lo hfl H1.size (Nat.le_trans hlo hS.1) x0 b ra sb hd ol σ hI hX hJ (nI f) (nI e) (nI ((s_now σ) + 1)) (nI v) (fun z => absurd z.2.1 (rg_x (by omega) (by omega) (by decide) (by omega)))) (vx_cwSW 5 hts gL_keeps_L_arrive rfl rfl rfl (by decide +kernel) ⟨Nat.le_of_ble_eq_true rfl, Nat.le_of_ble_eq_true rfl⟩) (ePreS hE (hS.mono hAlo) ⟨rfl, vP_app2 hP, vD_mono (vD_app2 hD) hAlo⟩) rfl rfl hl.1 rfl (lv_room (Nat.le_of_ble_eq_true rfl)) dL_keeps_216 ⟨(by omega : 0 + 5 + 5 + 5 ≤ 60), (by omega : 0 + 31 + 31 + 31 ≤ 400)⟩) hS (fun q _ h => h.elim) hFc (fun r_ u_ t_ H1 locs ht_ hvm_ hw_ hB_ hz_ hk_ hS => ?_)
            subst hw_
            have hP := vP_kept hP (fun q h => hk_ q h (fun z => z))
            refine lv_bipush (v := (-72)) hx hb dL_keeps_219 (by decide +kernel) ?_
            refine lv_icmp_ne (tgt := 289) hx hb dL_keeps_221 (by decide) (fun c_221 => absurd rfl c_221) (fun c_221 => ?_)
            refine lv_aload_n hx hb dL_keeps_224 rfl (lv_at hl 1 rfl) ?_
            refine lv_iload hx hb dL_keeps_225 (lv_at hl 13 rfl) ?_
            refine lv_iload hx hb dL_keeps_227 (lv_at hl 14 rfl) ?_
            refine lv_iconst (v := (-1)) hx hb dL_keeps_229 (by decide +kernel) ?_
            refine lv_iload hx hb dL_keeps_230 (lv_at hl 16 rfl) ?_
            have hAH : ∀ q : Nat, H1.size ≤ q → (kA cI cR cS la x0 b ra sb hd ol σ s.heap.size) q := fun q h => hA q (Nat.le_trans hS.1 h)
            have hFc := fr_freeR (w1 := xW cI cR cS x0 b ra sb hd ol σ) (w2 := lW cI la σ) hD hAH
            refine va_calli (vx_runSW (As := [.ref x0, .int (nI f), .int (nI e), .int ((-1)), .int (nI v)]) (rest := []) ⟨hx, hb, hml, hown, hts⟩ (c_L_arrive_no l dD cI cR cS lo hfl H1.size (Nat.le_trans hlo hS.1) x0 b ra sb hd ol σ hI hX hJ (nI f) (nI e) ((-1)) (nI v) (fun z => absurd z.2.1 (rg_m1 (by decide)))) (vx_cwSW 5 hts gL_keeps_L_arrive rfl rfl rfl (by decide +kernel) ⟨Nat.le_of_ble_eq_true rfl, Nat.le_of_ble_eq_true rfl⟩) (ePreS hE (hS.mono hAlo) ⟨rfl, vP_app2 hP, vD_mono (vD_app2 hD) hAlo⟩) rfl rfl hl.1 rfl (lv_room (Nat.le_of_ble_eq_true rfl)) dL_keeps_232 ⟨(by omega : 0 + 5 + 5 + 5 + 5 ≤ 60), (by omega : 0 + 31 + 31 + 31 + 31 ≤ 400)⟩) hS (fun q _ h => h.elim) hFc (fun r_ u_ t_ H1 locs ht_ hvm_ hw_ hB_ hz_ hk_ hS => ?_)
            subst hw_
            have hP := vP_kept hP (fun q h => hk_ q h (fun z => z))
            refine lv_bipush (v := (-72)) hx hb dL_keeps_235 (by decide +kernel) ?_
            refine lv_icmp_ne (tgt := 289) hx hb dL_keeps_237 (by decide) (fun c_237 => absurd rfl c_237) (fun c_237 => ?_)
            refine lv_aload_n hx hb dL_keeps_240 rfl (lv_at hl 1 rfl) ?_
            refine lv_iload hx hb dL_keeps_241 (lv_at hl 13 rfl) ?_
            refine lv_iload hx hb dL_keeps_243 (lv_at hl 14 rfl) ?_
            refine lv_iload hx hb dL_keeps_245 (lv_at hl 15 rfl) ?_
            refine lv_ldc (v := nI 100001) hx hb hown (hts (.constant RL 75 100001) (by decide +kernel)) dL_keeps_247 ?_
            have hAH : ∀ q : Nat, H1.size ≤ q → (kA cI cR cS la x0 b ra sb hd ol σ s.heap.size) q := fun q h => hA q (Nat.le_trans hS.1 h)
            have hFc := fr_freeR (w1 := xW cI cR cS x0 b ra sb hd ol σ) (w2 := lW cI la σ) hD hAH
            refine va_calli (vx_runSW (As := [.ref x0, .int (nI f), .int (nI e), .int (nI ev), .int (nI 100001)]) (rest := []) ⟨hx, hb, hml, hown, hts⟩ (c_L_arrive_no l dD cI cR cS lo hfl H1.size (Nat.le_trans hlo hS.1) x0 b ra sb hd ol σ hI hX hJ (nI f) (nI e) (nI ev) (nI 100001) (fun z => absurd z.2.2 (rg_x (by omega) (by omega) (by decide) (by omega)))) (vx_cwSW 5 hts gL_keeps_L_arrive rfl rfl rfl (by decide +kernel) ⟨Nat.le_of_ble_eq_true rfl, Nat.le_of_ble_eq_true rfl⟩) (ePreS hE (hS.mono hAlo) ⟨rfl, vP_app2 hP, vD_mono (vD_app2 hD) hAlo⟩) rfl rfl hl.1 rfl (lv_room (Nat.le_of_ble_eq_true rfl)) dL_keeps_249 ⟨(by omega : 0 + 5 + 5 + 5 + 5 + 5 ≤ 60), (by omega : 0 + 31 + 31 + 31 + 31 + 31 ≤ 400)⟩) hS (fun q _ h => h.elim) hFc (fun r_ u_ t_ H1 locs ht_ hvm_ hw_ hB_ hz_ hk_ hS => ?_)
            subst hw_
            have hP := vP_kept hP (fun q h => hk_ q h (fun z => z))
            refine lv_bipush (v := (-72)) hx hb dL_keeps_252 (by decide +kernel) ?_
            refine lv_icmp_ne (tgt := 289) hx hb dL_keeps_254 (by decide) (fun c_254 => absurd rfl c_254) (fun c_254 => ?_)
            refine lv_aload_n hx hb dL_keeps_257 rfl (lv_at hl 1 rfl) ?_
            refine lv_iload hx hb dL_keeps_258 (lv_at hl 13 rfl) ?_
            refine lv_iload hx hb dL_keeps_260 (lv_at hl 14 rfl) ?_
            refine lv_iload hx hb dL_keeps_262 (lv_at hl 15 rfl) ?_
            refine lv_iconst (v := (-1)) hx hb dL_keeps_264 (by decide +kernel) ?_
            have hAH : ∀ q : Nat, H1.size ≤ q → (kA cI cR cS la x0 b ra sb hd ol σ s.heap.size) q := fun q h => hA q (Nat.le_trans hS.1 h)
            have hFc := fr_freeR (w1 := xW cI cR cS x0 b ra sb hd ol σ) (w2 := lW cI la σ) hD hAH
            refine va_calli (vx_runSW (As := [.ref x0, .int (nI f), .int (nI e), .int (nI ev), .int ((-1))]) (rest := []) ⟨hx, hb, hml, hown, hts⟩ (c_L_arrive_no l dD cI cR cS lo hfl H1.size (Nat.le_trans hlo hS.1) x0 b ra sb hd ol σ hI hX hJ (nI f) (nI e) (nI ev) ((-1)) (fun z => absurd z.2.2 (rg_m1 (by decide)))) (vx_cwSW 5 hts gL_keeps_L_arrive rfl rfl rfl (by decide +kernel) ⟨Nat.le_of_ble_eq_true rfl, Nat.le_of_ble_eq_true rfl⟩) (ePreS hE (hS.mono hAlo) ⟨rfl, vP_app2 hP, vD_mono (vD_app2 hD) hAlo⟩) rfl rfl hl.1 rfl (lv_room (Nat.le_of_ble_eq_true rfl)) dL_keeps_265 ⟨(by omega : 0 + 5 + 5 + 5 + 5 + 5 + 5 ≤ 60), (by omega : 0 + 31 + 31 + 31 + 31 + 31 + 31 ≤ 400)⟩) hS (fun q _ h => h.elim) hFc (fun r_ u_ t_ H1 locs ht_ hvm_ hw_ hB_ hz_ hk_ hS => ?_)
            subst hw_
            have hP := vP_kept hP (fun q h => hk_ q h (fun z => z))
            refine lv_bipush (v := (-72)) hx hb dL_keeps_268 (by decide +kernel) ?_
            refine lv_icmp_ne (tgt := 289) hx hb dL_keeps_270 (by decide) (fun c_270 => absurd rfl c_270) (fun c_270 => ?_)
            refine lv_aload_n hx hb dL_keeps_273 rfl (lv_at hl 1 rfl) ?_
            refine lv_iconst (v := (-1)) hx hb dL_keeps_274 (by decide +kernel) ?_
            refine lv_iload hx hb dL_keeps_275 (lv_at hl 14 rfl) ?_
            refine lv_iload hx hb dL_keeps_277 (lv_at hl 15 rfl) ?_
            refine lv_iload hx hb dL_keeps_279 (lv_at hl 16 rfl) ?_
            have hAH : ∀ q : Nat, H1.size ≤ q → (kA cI cR cS la x0 b ra sb hd ol σ s.heap.size) q := fun q h => hA q (Nat.le_trans hS.1 h)
            have hFc := fr_freeR (w1 := xW cI cR cS x0 b ra sb hd ol σ) (w2 := lW cI la σ) hD hAH
            refine va_calli (vx_runSW (As := [.ref x0, .int ((-1)), .int (nI e), .int (nI ev), .int (nI v)]) (rest := []) ⟨hx, hb, hml, hown, hts⟩ (c_L_arrive_no l dD cI cR cS lo hfl H1.size (Nat.le_trans hlo hS.1) x0 b ra sb hd ol σ hI hX hJ ((-1)) (nI e) (nI ev) (nI v) (fun z => absurd z.1.1 (rg_m1 (by decide)))) (vx_cwSW 5 hts gL_keeps_L_arrive rfl rfl rfl (by decide +kernel) ⟨Nat.le_of_ble_eq_true rfl, Nat.le_of_ble_eq_true rfl⟩) (ePreS hE (hS.mono hAlo) ⟨rfl, vP_app2 hP, vD_mono (vD_app2 hD) hAlo⟩) rfl rfl hl.1 rfl (lv_room (Nat.le_of_ble_eq_true rfl)) dL_keeps_281 ⟨(by omega : 0 + 5 + 5 + 5 + 5 + 5 + 5 + 5 ≤ 60), (by omega : 0 + 31 + 31 + 31 + 31 + 31 + 31 + 31 ≤ 400)⟩) hS (fun q _ h => h.elim) hFc (fun r_ u_ t_ H1 locs ht_ hvm_ hw_ hB_ hz_ hk_ hS => ?_)
            subst hw_
            have hP := vP_kept hP (fun q h => hk_ q h (fun z => z))
            refine lv_bipush (v := (-72)) hx hb dL_keeps_284 (by decide +kernel) ?_
            refine lv_icmp_eq (tgt := 291) hx hb dL_keeps_286 (by decide) (fun c_286 => ?_) (fun c_286 => absurd rfl c_286)
            refine lv_aload hx hb dL_keeps_291 (lv_at hl 12 rfl) ?_
            refine lv_iconst (v := nI 1) hx hb dL_keeps_293 (by decide +kernel) ?_
            refine nv_ialdE (q0 := 7) (t0 := 0) (v := s_n σ) (l_g σ) (rfl) hx hb hK hP rfl rfl (by decide) (by decide) dL_keeps_294 ?_
            refine lv_bipush (v := nI 60) hx hb dL_keeps_295 (by decide +kernel) ?_
            refine nv_ne (tgt := 315) hx hb dL_keeps_297 (by decide) (by omega) (by omega) (fun c_297 => ?_) (fun c_297 => ?_)
            · have hn60 : s_n σ < 60 := by omega
              refine lv_aload hx hb dL_keeps_315 (lv_at hl 5 rfl) ?_
              refine lv_aload hx hb dL_keeps_317 (lv_at hl 12 rfl) ?_
              refine lv_iconst (v := nI 1) hx hb dL_keeps_319 (by decide +kernel) ?_
              refine nv_ialdE (q0 := 7) (t0 := 0) (v := s_n σ) (l_g σ) (rfl) hx hb hK hP rfl rfl (by decide) (by decide) dL_keeps_320 ?_
              refine lv_iload hx hb dL_keeps_321 (lv_at hl 0 rfl) ?_
              refine nv_iast (q0 := 0) (t0 := 0) (l_p σ) hx hb hK hP hD hS rfl rfl (by omega) (by decide) dL_keeps_323 (fun H locs hP hD hS => ?_)
              have hP : va_P dD vwCl ([(la 0, .inl (cI, 60, .inl (fun j => nI ((uN (l_p σ) (s_n σ) (pN (10 * f + e))) j)))), (la 1, .inl (cI, 60, .inl (fun j => nI (s_ev σ j)))), (la 2, .inl (cI, 60, .inl (fun j => nI (s_ar σ j)))), (la 3, .inl (cI, 60, .inl (fun j => nI (s_vl σ j)))), (la 4, .inl (cI, 6, .inl (fun j => nI (s_lt σ j)))), (la 5, .inl (cI, 60, .inl (fun j => nI (l_q σ j)))), (la 6, .inl (cI, 60, .inl (fun j => eN (s_sv σ j)))), (la 7, .inl (cI, 4, .inl (fun j => nI (l_g σ j))))] ++ xW cI cR cS x0 b ra sb hd ol σ) H := hP
              have hD : va_D (kA cI cR cS la x0 b ra sb hd ol σ s.heap.size) ([(la 0, .inl (cI, 60, .inl (fun j => nI ((uN (l_p σ) (s_n σ) (pN (10 * f + e))) j)))), (la 1, .inl (cI, 60, .inl (fun j => nI (s_ev σ j)))), (la 2, .inl (cI, 60, .inl (fun j => nI (s_ar σ j)))), (la 3, .inl (cI, 60, .inl (fun j => nI (s_vl σ j)))), (la 4, .inl (cI, 6, .inl (fun j => nI (s_lt σ j)))), (la 5, .inl (cI, 60, .inl (fun j => nI (l_q σ j)))), (la 6, .inl (cI, 60, .inl (fun j => eN (s_sv σ j)))), (la 7, .inl (cI, 4, .inl (fun j => nI (l_g σ j))))] ++ xW cI cR cS x0 b ra sb hd ol σ) := hD
              refine lv_aload hx hb dL_keeps_324 (lv_at hl 6 rfl) ?_
              refine lv_aload hx hb dL_keeps_326 (lv_at hl 12 rfl) ?_
              refine lv_iconst (v := nI 1) hx hb dL_keeps_328 (by decide +kernel) ?_
              refine nv_ialdE (q0 := 7) (t0 := 0) (v := s_n σ) (l_g σ) (rfl) hx hb hK hP rfl rfl (by decide) (by decide) dL_keeps_329 ?_
              refine lv_iload hx hb dL_keeps_330 (lv_at hl 15 rfl) ?_
              refine nv_iast (q0 := 1) (t0 := 0) (s_ev σ) hx hb hK hP hD hS rfl rfl (by omega) (by decide) dL_keeps_332 (fun H locs hP hD hS => ?_)
              have hP : va_P dD vwCl ([(la 0, .inl (cI, 60, .inl (fun j => nI ((uN (l_p σ) (s_n σ) (pN (10 * f + e))) j)))), (la 1, .inl (cI, 60, .inl (fun j => nI ((uN (s_ev σ) (s_n σ) ev) j)))), (la 2, .inl (cI, 60, .inl (fun j => nI (s_ar σ j)))), (la 3, .inl (cI, 60, .inl (fun j => nI (s_vl σ j)))), (la 4, .inl (cI, 6, .inl (fun j => nI (s_lt σ j)))), (la 5, .inl (cI, 60, .inl (fun j => nI (l_q σ j)))), (la 6, .inl (cI, 60, .inl (fun j => eN (s_sv σ j)))), (la 7, .inl (cI, 4, .inl (fun j => nI (l_g σ j))))] ++ xW cI cR cS x0 b ra sb hd ol σ) H := hP
              have hD : va_D (kA cI cR cS la x0 b ra sb hd ol σ s.heap.size) ([(la 0, .inl (cI, 60, .inl (fun j => nI ((uN (l_p σ) (s_n σ) (pN (10 * f + e))) j)))), (la 1, .inl (cI, 60, .inl (fun j => nI ((uN (s_ev σ) (s_n σ) ev) j)))), (la 2, .inl (cI, 60, .inl (fun j => nI (s_ar σ j)))), (la 3, .inl (cI, 60, .inl (fun j => nI (s_vl σ j)))), (la 4, .inl (cI, 6, .inl (fun j => nI (s_lt σ j)))), (la 5, .inl (cI, 60, .inl (fun j => nI (l_q σ j)))), (la 6, .inl (cI, 60, .inl (fun j => eN (s_sv σ j)))), (la 7, .inl (cI, 4, .inl (fun j => nI (l_g σ j))))] ++ xW cI cR cS x0 b ra sb hd ol σ) := hD
              refine lv_aload hx hb dL_keeps_333 (lv_at hl 7 rfl) ?_
              refine lv_aload hx hb dL_keeps_335 (lv_at hl 12 rfl) ?_
              refine lv_iconst (v := nI 1) hx hb dL_keeps_337 (by decide +kernel) ?_
              refine nv_ialdE (q0 := 7) (t0 := 0) (v := s_n σ) (l_g σ) (rfl) hx hb hK hP rfl rfl (by decide) (by decide) dL_keeps_338 ?_
              refine lv_aload hx hb dL_keeps_339 (lv_at hl 12 rfl) ?_
              refine lv_iconst (v := nI 0) hx hb dL_keeps_341 (by decide +kernel) ?_
              refine nv_ialdE (q0 := 7) (t0 := 0) (v := s_now σ) (l_g σ) (rfl) hx hb hK hP rfl rfl (by decide) (by decide) dL_keeps_342 ?_
              refine nv_iast (q0 := 2) (t0 := 0) (s_ar σ) hx hb hK hP hD hS rfl rfl (by omega) (by decide) dL_keeps_343 (fun H locs hP hD hS => ?_)
              have hP : va_P dD vwCl ([(la 0, .inl (cI, 60, .inl (fun j => nI ((uN (l_p σ) (s_n σ) (pN (10 * f + e))) j)))), (la 1, .inl (cI, 60, .inl (fun j => nI ((uN (s_ev σ) (s_n σ) ev) j)))), (la 2, .inl (cI, 60, .inl (fun j => nI ((uN (s_ar σ) (s_n σ) (s_now σ)) j)))), (la 3, .inl (cI, 60, .inl (fun j => nI (s_vl σ j)))), (la 4, .inl (cI, 6, .inl (fun j => nI (s_lt σ j)))), (la 5, .inl (cI, 60, .inl (fun j => nI (l_q σ j)))), (la 6, .inl (cI, 60, .inl (fun j => eN (s_sv σ j)))), (la 7, .inl (cI, 4, .inl (fun j => nI (l_g σ j))))] ++ xW cI cR cS x0 b ra sb hd ol σ) H := hP
              have hD : va_D (kA cI cR cS la x0 b ra sb hd ol σ s.heap.size) ([(la 0, .inl (cI, 60, .inl (fun j => nI ((uN (l_p σ) (s_n σ) (pN (10 * f + e))) j)))), (la 1, .inl (cI, 60, .inl (fun j => nI ((uN (s_ev σ) (s_n σ) ev) j)))), (la 2, .inl (cI, 60, .inl (fun j => nI ((uN (s_ar σ) (s_n σ) (s_now σ)) j)))), (la 3, .inl (cI, 60, .inl (fun j => nI (s_vl σ j)))), (la 4, .inl (cI, 6, .inl (fun j => nI (s_lt σ j)))), (la 5, .inl (cI, 60, .inl (fun j => nI (l_q σ j)))), (la 6, .inl (cI, 60, .inl (fun j => eN (s_sv σ j)))), (la 7, .inl (cI, 4, .inl (fun j => nI (l_g σ j))))] ++ xW cI cR cS x0 b ra sb hd ol σ) := hD
              refine lv_aload hx hb dL_keeps_344 (lv_at hl 8 rfl) ?_
              refine lv_aload hx hb dL_keeps_346 (lv_at hl 12 rfl) ?_
              refine lv_iconst (v := nI 1) hx hb dL_keeps_348 (by decide +kernel) ?_
              refine nv_ialdE (q0 := 7) (t0 := 0) (v := s_n σ) (l_g σ) (rfl) hx hb hK hP rfl rfl (by decide) (by decide) dL_keeps_349 ?_
              refine lv_iload hx hb dL_keeps_350 (lv_at hl 16 rfl) ?_
              refine nv_iast (q0 := 3) (t0 := 0) (s_vl σ) hx hb hK hP hD hS rfl rfl (by omega) (by decide) dL_keeps_352 (fun H locs hP hD hS => ?_)
              have hP : va_P dD vwCl ([(la 0, .inl (cI, 60, .inl (fun j => nI ((uN (l_p σ) (s_n σ) (pN (10 * f + e))) j)))), (la 1, .inl (cI, 60, .inl (fun j => nI ((uN (s_ev σ) (s_n σ) ev) j)))), (la 2, .inl (cI, 60, .inl (fun j => nI ((uN (s_ar σ) (s_n σ) (s_now σ)) j)))), (la 3, .inl (cI, 60, .inl (fun j => nI ((uN (s_vl σ) (s_n σ) v) j)))), (la 4, .inl (cI, 6, .inl (fun j => nI (s_lt σ j)))), (la 5, .inl (cI, 60, .inl (fun j => nI (l_q σ j)))), (la 6, .inl (cI, 60, .inl (fun j => eN (s_sv σ j)))), (la 7, .inl (cI, 4, .inl (fun j => nI (l_g σ j))))] ++ xW cI cR cS x0 b ra sb hd ol σ) H := hP
              have hD : va_D (kA cI cR cS la x0 b ra sb hd ol σ s.heap.size) ([(la 0, .inl (cI, 60, .inl (fun j => nI ((uN (l_p σ) (s_n σ) (pN (10 * f + e))) j)))), (la 1, .inl (cI, 60, .inl (fun j => nI ((uN (s_ev σ) (s_n σ) ev) j)))), (la 2, .inl (cI, 60, .inl (fun j => nI ((uN (s_ar σ) (s_n σ) (s_now σ)) j)))), (la 3, .inl (cI, 60, .inl (fun j => nI ((uN (s_vl σ) (s_n σ) v) j)))), (la 4, .inl (cI, 6, .inl (fun j => nI (s_lt σ j)))), (la 5, .inl (cI, 60, .inl (fun j => nI (l_q σ j)))), (la 6, .inl (cI, 60, .inl (fun j => eN (s_sv σ j)))), (la 7, .inl (cI, 4, .inl (fun j => nI (l_g σ j))))] ++ xW cI cR cS x0 b ra sb hd ol σ) := hD
              refine lv_aload hx hb dL_keeps_353 (lv_at hl 12 rfl) ?_
              refine lv_iconst (v := nI 1) hx hb dL_keeps_355 (by decide +kernel) ?_
              refine lv_dup2_11 hx hb dL_keeps_356 rfl rfl ?_
              refine nv_ialdE (q0 := 7) (t0 := 0) (v := s_n σ) (l_g σ) (rfl) hx hb hK hP rfl rfl (by decide) (by decide) dL_keeps_357 ?_
              refine lv_iconst (v := nI 1) hx hb dL_keeps_358 (by decide +kernel) ?_
              refine nv_iadd hx hb dL_keeps_359 ?_
              refine nv_iast (q0 := 7) (t0 := 0) (l_g σ) hx hb hK hP hD hS rfl rfl (by omega) (by decide) dL_keeps_360 (fun H locs hP hD hS => ?_)
              have hP : va_P dD vwCl ([(la 0, .inl (cI, 60, .inl (fun j => nI ((uN (l_p σ) (s_n σ) (pN (10 * f + e))) j)))), (la 1, .inl (cI, 60, .inl (fun j => nI ((uN (s_ev σ) (s_n σ) ev) j)))), (la 2, .inl (cI, 60, .inl (fun j => nI ((uN (s_ar σ) (s_n σ) (s_now σ)) j)))), (la 3, .inl (cI, 60, .inl (fun j => nI ((uN (s_vl σ) (s_n σ) v) j)))), (la 4, .inl (cI, 6, .inl (fun j => nI (s_lt σ j)))), (la 5, .inl (cI, 60, .inl (fun j => nI (l_q σ j)))), (la 6, .inl (cI, 60, .inl (fun j => eN (s_sv σ j)))), (la 7, .inl (cI, 4, .inl (fun j => nI ((uN (l_g σ) 1 ((s_n σ) + 1)) j))))] ++ xW cI cR cS x0 b ra sb hd ol σ) H := hP
              have hD : va_D (kA cI cR cS la x0 b ra sb hd ol σ s.heap.size) ([(la 0, .inl (cI, 60, .inl (fun j => nI ((uN (l_p σ) (s_n σ) (pN (10 * f + e))) j)))), (la 1, .inl (cI, 60, .inl (fun j => nI ((uN (s_ev σ) (s_n σ) ev) j)))), (la 2, .inl (cI, 60, .inl (fun j => nI ((uN (s_ar σ) (s_n σ) (s_now σ)) j)))), (la 3, .inl (cI, 60, .inl (fun j => nI ((uN (s_vl σ) (s_n σ) v) j)))), (la 4, .inl (cI, 6, .inl (fun j => nI (s_lt σ j)))), (la 5, .inl (cI, 60, .inl (fun j => nI (l_q σ j)))), (la 6, .inl (cI, 60, .inl (fun j => eN (s_sv σ j)))), (la 7, .inl (cI, 4, .inl (fun j => nI ((uN (l_g σ) 1 ((s_n σ) + 1)) j))))] ++ xW cI cR cS x0 b ra sb hd ol σ) := hD
              refine lv_aload_n hx hb dL_keeps_361 rfl (lv_at hl 1 rfl) ?_
              refine lv_iload hx hb dL_keeps_362 (lv_at hl 13 rfl) ?_
              refine lv_iload hx hb dL_keeps_364 (lv_at hl 14 rfl) ?_
              refine lv_iload hx hb dL_keeps_366 (lv_at hl 15 rfl) ?_
              refine lv_iload hx hb dL_keeps_368 (lv_at hl 16 rfl) ?_
              have hAH : ∀ q : Nat, H.size ≤ q → (kA cI cR cS la x0 b ra sb hd ol σ s.heap.size) q := fun q h => hA q (Nat.le_trans hS.1 h)
              have hFc := fr_freeR (w1 := xW cI cR cS x0 b ra sb hd ol σ) (w2 := [(la 0, .inl (cI, 60, .inl (fun j => nI ((uN (l_p σ) (s_n σ) (pN (10 * f + e))) j)))), (la 1, .inl (cI, 60, .inl (fun j => nI ((uN (s_ev σ) (s_n σ) ev) j)))), (la 2, .inl (cI, 60, .inl (fun j => nI ((uN (s_ar σ) (s_n σ) (s_now σ)) j)))), (la 3, .inl (cI, 60, .inl (fun j => nI ((uN (s_vl σ) (s_n σ) v) j)))), (la 4, .inl (cI, 6, .inl (fun j => nI (s_lt σ j)))), (la 5, .inl (cI, 60, .inl (fun j => nI (l_q σ j)))), (la 6, .inl (cI, 60, .inl (fun j => eN (s_sv σ j)))), (la 7, .inl (cI, 4, .inl (fun j => nI ((uN (l_g σ) 1 ((s_n σ) + 1)) j))))]) hD hAH
              refine va_calli (vx_runSW (As := [.ref x0, .int (nI f), .int (nI e), .int (nI ev), .int (nI v)]) (rest := []) ⟨hx, hb, hml, hown, hts⟩ (c_L_arrive_ok l dD cI cR cS lo hfl H.size (Nat.le_trans hlo hS.1) x0 b ra sb hd ol σ hI hX hJ (nI f) (nI e) (nI ev) (nI v) (⟨⟨okP_n hf he, rg_n (Nat.zero_le _) hev (by omega), rg_n (Nat.zero_le _) hv (by decide)⟩, by omega⟩)) (vx_cwSW 5 hts gL_keeps_L_arrive rfl rfl rfl (by decide +kernel) ⟨Nat.le_of_ble_eq_true rfl, Nat.le_of_ble_eq_true rfl⟩) (ePreS hE (hS.mono hAlo) ⟨rfl, vP_app2 hP, vD_mono (vD_app2 hD) hAlo⟩) rfl rfl hl.1 rfl (lv_room (Nat.le_of_ble_eq_true rfl)) dL_keeps_370 ⟨(by omega : 0 + 5 + 5 + 5 + 5 + 5 + 5 + 5 + 5 ≤ 60), (by omega : 0 + 31 + 31 + 31 + 31 + 31 + 31 + 31 + 31 ≤ 400)⟩) hS (fun q _ h => hFc q h) hFc (fun r_ u_ t_ H1 locs ht_ hvm_ hw_ hB_ hz_ hk_ hS => ?_)
              obtain ⟨ra', sb', hd', ol'⟩ := u_
              have eG : g_arrive σ (plN (nI f) (nI e)) (cl (nI ev)) (cl (nI v)) = g_arrive σ (10 * f + e) ev v := by rw [plN_n hf he, cl_nI (show ev < 2 ^ 31 by omega), cl_nI (show v < 2 ^ 31 by omega)]
              rw [eG] at hw_ hB_
              obtain ⟨hr_, hI', hX', hJ'⟩ := hw_
              have hr_ : r_ = nI (s_n σ) := hr_.trans (rfl)
              subst hr_
              obtain ⟨hP, hD⟩ := fr_joinR (w1 := xW cI cR cS x0 b ra sb hd ol σ) (w1' := (xW cI cR cS x0 b ra' sb' hd' ol' (g_arrive σ (10 * f + e) ev v))) (w2 := [(la 0, .inl (cI, 60, .inl (fun j => nI ((uN (l_p σ) (s_n σ) (pN (10 * f + e))) j)))), (la 1, .inl (cI, 60, .inl (fun j => nI ((uN (s_ev σ) (s_n σ) ev) j)))), (la 2, .inl (cI, 60, .inl (fun j => nI ((uN (s_ar σ) (s_n σ) (s_now σ)) j)))), (la 3, .inl (cI, 60, .inl (fun j => nI ((uN (s_vl σ) (s_n σ) v) j)))), (la 4, .inl (cI, 6, .inl (fun j => nI (s_lt σ j)))), (la 5, .inl (cI, 60, .inl (fun j => nI (l_q σ j)))), (la 6, .inl (cI, 60, .inl (fun j => eN (s_sv σ j)))), (la 7, .inl (cI, 4, .inl (fun j => nI ((uN (l_g σ) 1 ((s_n σ) + 1)) j))))]) hP hD hAH hk_ (by rw [← ht_]; exact hB_.1) hB_.2
              have hP : va_P dD vwCl ([(la 0, .inl (cI, 60, .inl (fun j => nI ((uN (l_p σ) (s_n σ) (pN (10 * f + e))) j)))), (la 1, .inl (cI, 60, .inl (fun j => nI ((uN (s_ev σ) (s_n σ) ev) j)))), (la 2, .inl (cI, 60, .inl (fun j => nI ((uN (s_ar σ) (s_n σ) (s_now σ)) j)))), (la 3, .inl (cI, 60, .inl (fun j => nI ((uN (s_vl σ) (s_n σ) v) j)))), (la 4, .inl (cI, 6, .inl (fun j => nI (s_lt σ j)))), (la 5, .inl (cI, 60, .inl (fun j => nI (l_q σ j)))), (la 6, .inl (cI, 60, .inl (fun j => eN (s_sv σ j)))), (la 7, .inl (cI, 4, .inl (fun j => nI ((uN (l_g σ) 1 ((s_n σ) + 1)) j))))] ++ (xW cI cR cS x0 b ra' sb' hd' ol' (g_arrive σ (10 * f + e) ev v))) H1 := hP
              have hD : va_D (kA cI cR cS la x0 b ra sb hd ol σ s.heap.size) ([(la 0, .inl (cI, 60, .inl (fun j => nI ((uN (l_p σ) (s_n σ) (pN (10 * f + e))) j)))), (la 1, .inl (cI, 60, .inl (fun j => nI ((uN (s_ev σ) (s_n σ) ev) j)))), (la 2, .inl (cI, 60, .inl (fun j => nI ((uN (s_ar σ) (s_n σ) (s_now σ)) j)))), (la 3, .inl (cI, 60, .inl (fun j => nI ((uN (s_vl σ) (s_n σ) v) j)))), (la 4, .inl (cI, 6, .inl (fun j => nI (s_lt σ j)))), (la 5, .inl (cI, 60, .inl (fun j => nI (l_q σ j)))), (la 6, .inl (cI, 60, .inl (fun j => eN (s_sv σ j)))), (la 7, .inl (cI, 4, .inl (fun j => nI ((uN (l_g σ) 1 ((s_n σ) + 1)) j))))] ++ (xW cI cR cS x0 b ra' sb' hd' ol' (g_arrive σ (10 * f + e) ev v))) := hD
              have hL' : lI (g_arrive σ (10 * f + e) ev v) := lI_arrive hI hL hn60
              refine lv_aload hx hb dL_keeps_373 (lv_at hl 12 rfl) ?_
              refine lv_iconst (v := nI 1) hx hb dL_keeps_375 (by decide +kernel) ?_
              refine nv_ialdE (q0 := 7) (t0 := 0) (v := (s_n σ) + 1) (uN (l_g σ) 1 ((s_n σ) + 1)) (uN_s) hx hb hK hP rfl rfl (by decide) (by decide) dL_keeps_376 ?_
              refine lv_iconst (v := nI 1) hx hb dL_keeps_377 (by decide +kernel) ?_
              refine nv_isub hx hb dL_keeps_378 (by omega) ?_
              refine nv_ne (tgt := 386) hx hb dL_keeps_379 (by decide) (by omega) (by omega) (fun c_379 => (c_379 (by omega)).elim) (fun c_379 => ?_)
              refine lv_iconst (v := nI 1) hx hb dL_keeps_382 (by decide +kernel) ?_
              refine lv_goto (tgt := 387) hx hb dL_keeps_383 (by decide) ?_
              have eW : lW cI la (g_arrive σ (10 * f + e) ev v) = [(la 0, .inl (cI, 60, .inl (fun j => nI ((uN (l_p σ) (s_n σ) (pN (10 * f + e))) j)))), (la 1, .inl (cI, 60, .inl (fun j => nI ((uN (s_ev σ) (s_n σ) ev) j)))), (la 2, .inl (cI, 60, .inl (fun j => nI ((uN (s_ar σ) (s_n σ) (s_now σ)) j)))), (la 3, .inl (cI, 60, .inl (fun j => nI ((uN (s_vl σ) (s_n σ) v) j)))), (la 4, .inl (cI, 6, .inl (fun j => nI (s_lt σ j)))), (la 5, .inl (cI, 60, .inl (fun j => nI (l_q σ j)))), (la 6, .inl (cI, 60, .inl (fun j => eN (s_sv σ j)))), (la 7, .inl (cI, 4, .inl (fun j => nI ((uN (l_g σ) 1 ((s_n σ) + 1)) j))))] := by
                show ([(la 0, .inl (cI, 60, .inl (fun j => nI ((l_p (g_arrive σ (10 * f + e) ev v)) j)))), (la 1, .inl (cI, 60, .inl (fun j => nI ((s_ev (g_arrive σ (10 * f + e) ev v)) j)))), (la 2, .inl (cI, 60, .inl (fun j => nI ((s_ar (g_arrive σ (10 * f + e) ev v)) j)))), (la 3, .inl (cI, 60, .inl (fun j => nI ((s_vl (g_arrive σ (10 * f + e) ev v)) j)))), (la 4, .inl (cI, 6, .inl (fun j => nI ((s_lt (g_arrive σ (10 * f + e) ev v)) j)))), (la 5, .inl (cI, 60, .inl (fun j => nI ((l_q (g_arrive σ (10 * f + e) ev v)) j)))), (la 6, .inl (cI, 60, .inl (fun j => eN ((s_sv (g_arrive σ (10 * f + e) ev v)) j)))), (la 7, .inl (cI, 4, .inl (fun j => nI ((l_g (g_arrive σ (10 * f + e) ev v)) j))))] : va_W) = _
                rw [l_p_arrive, l_g_arrive] <;> rfl
              refine W.widen (k := 60) (n := 400) (by omega) (by omega) ?_
              exact W.zret (v := nI 1) hx hb hr rfl (fun u9 hu9 hW => ⟨⟨nI 1, (g_arrive σ (10 * f + e) ev v, ra', sb', hd', ol'), rfl, ⟨rfl, ⟨hI', hX', hJ', hL'⟩⟩, by have h9 := hP; rw [← hu9] at h9; rw [← eW] at h9 hD; exact ⟨h9, hD⟩⟩, hS.F hu9⟩) hS.2.2 dL_keeps_387
            · refine lv_aload_n hx hb dL_keeps_300 rfl (lv_at hl 1 rfl) ?_
              refine vp_callSi (va_Run.run (va_runV (As := []) (rest := []) ⟨hx, hb, hml, hown, hts⟩ (c_X2_rows l dD cI cR cS lo x0 b ra sb hd ol σ hI) (cwV 0 hts gL_keeps_X2_rows rfl rfl rfl (by decide +kernel) ⟨Nat.le_of_ble_eq_true rfl, Nat.le_of_ble_eq_true rfl⟩) (ePreV hE (hS.mono hAlo) hP (k := 8) rfl rfl (vP_app2 hP)) rfl rfl hl.1 rfl (lv_room (Nat.le_of_ble_eq_true rfl)) dL_keeps_301 ⟨(by omega : 0 + 5 + 5 + 5 + 5 + 5 + 5 + 5 + 0 ≤ 60), (by omega : 0 + 31 + 31 + 31 + 31 + 31 + 31 + 31 + 0 ≤ 400)⟩)) (fun r_301 hr_301 => ?_)
              have hr_301 : r_301 = nI (s_n σ) := hr_301
              subst hr_301
              refine lv_bipush (v := nI 60) hx hb dL_keeps_304 (by decide +kernel) ?_
              refine nv_ne (tgt := 313) hx hb dL_keeps_306 (by decide) (by omega) (by omega) (fun c_306 => absurd c_297 c_306) (fun c_306 => ?_)
              refine lv_iconst (v := nI 1) hx hb dL_keeps_309 (by decide +kernel) ?_
              refine lv_goto (tgt := 314) hx hb dL_keeps_310 (by decide) ?_
              refine W.widen (k := 60) (n := 400) (by omega) (by omega) ?_
              exact W.zret (v := nI 1) hx hb hr rfl (fun u9 hu9 hW => ⟨⟨nI 1, (σ, ra, sb, hd, ol), rfl, ⟨rfl, ⟨hI, hX, hJ, hL⟩⟩, by have h9 := hP; rw [← hu9] at h9; exact ⟨h9, hD⟩⟩, hS.F hu9⟩) hS.2.2 dL_keeps_314
          refine lv_iload_n hx hb dL_keeps_138 rfl (lv_at hl 4 rfl) ?_
          refine lv_sipush (v := nI 24576) hx hb dL_keeps_139 (by decide +kernel) ?_
          refine lv_iand hx hb dL_keeps_142 ?_
          refine lv_if_ne (tgt := 158) hx hb dL_keeps_143 (by decide) (fun c_143 => ?_) (fun c_143 => ?_)
          · refine lv_iload_n hx hb dL_keeps_158 rfl (lv_at hl 4 rfl) ?_
            refine lv_bipush (v := nI 15) hx hb dL_keeps_159 (by decide +kernel) ?_
            refine lv_ishr hx hb dL_keeps_161 ?_
            refine lv_bipush (v := nI 50) hx hb dL_keeps_162 (by decide +kernel) ?_
            refine vp_callSi (va_Run.run (va_runS (As := [.int (z >>> ((nI 15) &&& 31)), .int (nI 50)]) (rest := []) ⟨hx, hb, hml, hown, hts⟩ (c_L_low l dD cI cR cS lo (z >>> ((nI 15) &&& 31)) (50) (by omega) (by omega)) (va_cwS 2 hts gL_keeps_L_low rfl rfl rfl (by decide +kernel) ⟨Nat.le_of_ble_eq_true rfl, Nat.le_of_ble_eq_true rfl⟩) (ePreS hE (hS.mono hAlo) trivial) rfl rfl hl.1 rfl (lv_room (Nat.le_of_ble_eq_true rfl)) dL_keeps_164 ⟨(by omega : 0 + 0 ≤ 60), (by omega : 0 + 0 ≤ 400)⟩)) (fun r_164 hr_164 => ?_)
            obtain ⟨j, hj, rfl⟩ := hr_164
            refine lv_istore (lv' := [(16, .int (nI j)), (14, .int (nI (pN (10 * f + e)))), (0, .ref x0), (1, .int (nI ac)), (2, .int y), (3, .int z), (4, .ref (la 0)), (5, .ref (la 1)), (6, .ref (la 2)), (7, .ref (la 3)), (8, .ref (la 4)), (9, .ref (la 5)), (10, .ref (la 6)), (11, .ref (la 7)), (12, .int (nI f)), (13, .int (nI e)), (15, .int (nI ev))]) hx hb dL_keeps_167 hl (by decide) rfl (fun ls hl => ?_)
            exact hj_169 j (by omega) _ _ hP hD hS ls (lv_sub hl [1, 2, 3, 4, 5, 6, 7, 8, 9, 10, 11, 12, 13, 14, 15, 16, 0] rfl)
          · refine lv_iload_n hx hb dL_keeps_146 rfl (lv_at hl 4 rfl) ?_
            refine lv_bipush (v := nI 15) hx hb dL_keeps_147 (by decide +kernel) ?_
            refine lv_ishr hx hb dL_keeps_149 ?_
            refine lv_ldc (v := nI 100001) hx hb hown (hts (.constant RL 75 100001) (by decide +kernel)) dL_keeps_150 ?_
            refine vp_callSi (va_Run.run (va_runS (As := [.int (z >>> ((nI 15) &&& 31)), .int (nI 100001)]) (rest := []) ⟨hx, hb, hml, hown, hts⟩ (c_L_low l dD cI cR cS lo (z >>> ((nI 15) &&& 31)) (100001) (by omega) (by omega)) (va_cwS 2 hts gL_keeps_L_low rfl rfl rfl (by decide +kernel) ⟨Nat.le_of_ble_eq_true rfl, Nat.le_of_ble_eq_true rfl⟩) (ePreS hE (hS.mono hAlo) trivial) rfl rfl hl.1 rfl (lv_room (Nat.le_of_ble_eq_true rfl)) dL_keeps_152 ⟨(by omega : 0 + 0 ≤ 60), (by omega : 0 + 0 ≤ 400)⟩)) (fun r_152 hr_152 => ?_)
            obtain ⟨j, hj, rfl⟩ := hr_152
            refine lv_goto (tgt := 167) hx hb dL_keeps_155 (by decide) ?_
            refine lv_istore (lv' := [(16, .int (nI j)), (14, .int (nI (pN (10 * f + e)))), (0, .ref x0), (1, .int (nI ac)), (2, .int y), (3, .int z), (4, .ref (la 0)), (5, .ref (la 1)), (6, .ref (la 2)), (7, .ref (la 3)), (8, .ref (la 4)), (9, .ref (la 5)), (10, .ref (la 6)), (11, .ref (la 7)), (12, .int (nI f)), (13, .int (nI e)), (15, .int (nI ev))]) hx hb dL_keeps_167 hl (by decide) rfl (fun ls hl => ?_)
            exact hj_169 j (by omega) _ _ hP hD hS ls (lv_sub hl [1, 2, 3, 4, 5, 6, 7, 8, 9, 10, 11, 12, 13, 14, 15, 16, 0] rfl)
        refine lv_iload_n hx hb dL_keeps_73 rfl (lv_at hl 4 rfl) ?_
        refine lv_bipush (v := nI 6) hx hb dL_keeps_74 (by decide +kernel) ?_
        refine lv_iand hx hb dL_keeps_76 ?_
        refine lv_if_ne (tgt := 87) hx hb dL_keeps_77 (by decide) (fun c_77 => ?_) (fun c_77 => ?_)
        · refine lv_iload_n hx hb dL_keeps_87 rfl (lv_at hl 4 rfl) ?_
          refine lv_bipush (v := nI 6) hx hb dL_keeps_88 (by decide +kernel) ?_
          refine lv_iand hx hb dL_keeps_90 ?_
          refine lv_iconst (v := nI 2) hx hb dL_keeps_91 (by decide +kernel) ?_
          refine lv_icmp_ne (tgt := 110) hx hb dL_keeps_92 (by decide) (fun c_92 => ?_) (fun c_92 => ?_)
          · refine lv_aload hx hb dL_keeps_110 (lv_at hl 12 rfl) ?_
            refine lv_iconst (v := nI 0) hx hb dL_keeps_112 (by decide +kernel) ?_
            refine nv_ialdE (q0 := 7) (t0 := 0) (v := s_now σ) (l_g σ) (rfl) hx hb hK hP rfl rfl (by decide) (by decide) dL_keeps_113 ?_
            refine lv_iload_n hx hb dL_keeps_114 rfl (lv_at hl 4 rfl) ?_
            refine lv_iconst (v := nI 3) hx hb dL_keeps_115 (by decide +kernel) ?_
            refine lv_ishr hx hb dL_keeps_116 ?_
            refine lv_bipush (v := nI 30) hx hb dL_keeps_117 (by decide +kernel) ?_
            refine vp_callSi (va_Run.run (va_runS (As := [.int (z >>> ((nI 3) &&& 31)), .int (nI 30)]) (rest := [.int (nI (s_now σ))]) ⟨hx, hb, hml, hown, hts⟩ (c_L_low l dD cI cR cS lo (z >>> ((nI 3) &&& 31)) (30) (by omega) (by omega)) (va_cwS 2 hts gL_keeps_L_low rfl rfl rfl (by decide +kernel) ⟨Nat.le_of_ble_eq_true rfl, Nat.le_of_ble_eq_true rfl⟩) (ePreS hE (hS.mono hAlo) trivial) rfl rfl hl.1 rfl (lv_room (Nat.le_of_ble_eq_true rfl)) dL_keeps_119 ⟨(by omega : 0 + 0 ≤ 60), (by omega : 0 + 0 ≤ 400)⟩)) (fun r_119 hr_119 => ?_)
            obtain ⟨j, hj, rfl⟩ := hr_119
            by_cases hj2 : j ≤ s_now σ
            · refine nv_isub hx hb dL_keeps_122 hj2 ?_
              refine lv_istore (lv' := [(15, .int (nI (s_now σ - j))), (14, .int (nI (pN (10 * f + e)))), (0, .ref x0), (1, .int (nI ac)), (2, .int y), (3, .int z), (4, .ref (la 0)), (5, .ref (la 1)), (6, .ref (la 2)), (7, .ref (la 3)), (8, .ref (la 4)), (9, .ref (la 5)), (10, .ref (la 6)), (11, .ref (la 7)), (12, .int (nI f)), (13, .int (nI e))]) hx hb dL_keeps_123 hl (by decide) rfl (fun ls hl => ?_)
              refine lv_iload hx hb dL_keeps_125 (lv_at hl 0 rfl) ?_
              refine nv_if_geT (tgt := 134) hx hb dL_keeps_127 (by decide) (by omega) ?_
              refine lv_iload hx hb dL_keeps_134 (lv_at hl 0 rfl) ?_
              refine lv_istore (lv' := [(15, .int (nI (s_now σ - j))), (14, .int (nI (pN (10 * f + e)))), (0, .ref x0), (1, .int (nI ac)), (2, .int y), (3, .int z), (4, .ref (la 0)), (5, .ref (la 1)), (6, .ref (la 2)), (7, .ref (la 3)), (8, .ref (la 4)), (9, .ref (la 5)), (10, .ref (la 6)), (11, .ref (la 7)), (12, .int (nI f)), (13, .int (nI e))]) hx hb dL_keeps_136 hl (by decide) rfl (fun ls hl => ?_)
              exact hj_138 (s_now σ - j) (by omega) _ _ hP hD hS ls (lv_sub hl [1, 2, 3, 4, 5, 6, 7, 8, 9, 10, 11, 12, 13, 14, 15, 0] rfl)
            · refine lv_isub hx hb dL_keeps_122 ?_
              refine lv_istore (lv' := [(15, .int (nI (s_now σ) - nI j)), (14, .int (nI (pN (10 * f + e)))), (0, .ref x0), (1, .int (nI ac)), (2, .int y), (3, .int z), (4, .ref (la 0)), (5, .ref (la 1)), (6, .ref (la 2)), (7, .ref (la 3)), (8, .ref (la 4)), (9, .ref (la 5)), (10, .ref (la 6)), (11, .ref (la 7)), (12, .int (nI f)), (13, .int (nI e))]) hx hb dL_keeps_123 hl (by decide) rfl (fun ls hl => ?_)
              refine lv_iload hx hb dL_keeps_125 (lv_at hl 0 rfl) ?_
              refine lv_if_ge (tgt := 134) hx hb dL_keeps_127 (by decide) (fun c_127 => absurd c_127 (fun z => hj2 (by rw [Int32.le_iff_toInt_le, pk_sub_toInt (by omega) (by omega), show (0 : Int32).toInt = 0 from by decide] at z; omega))) (fun c_127 => ?_)
              refine lv_iconst (v := nI 0) hx hb dL_keeps_130 (by decide +kernel) ?_
              refine lv_goto (tgt := 136) hx hb dL_keeps_131 (by decide) ?_
              refine lv_istore (lv' := [(15, .int (nI 0)), (14, .int (nI (pN (10 * f + e)))), (0, .ref x0), (1, .int (nI ac)), (2, .int y), (3, .int z), (4, .ref (la 0)), (5, .ref (la 1)), (6, .ref (la 2)), (7, .ref (la 3)), (8, .ref (la 4)), (9, .ref (la 5)), (10, .ref (la 6)), (11, .ref (la 7)), (12, .int (nI f)), (13, .int (nI e))]) hx hb dL_keeps_136 hl (by decide) rfl (fun ls hl => ?_)
              exact hj_138 0 (by omega) _ _ hP hD hS ls (lv_sub hl [1, 2, 3, 4, 5, 6, 7, 8, 9, 10, 11, 12, 13, 14, 15, 0] rfl)
          · refine lv_iload_n hx hb dL_keeps_95 rfl (lv_at hl 4 rfl) ?_
            refine lv_iconst (v := nI 3) hx hb dL_keeps_96 (by decide +kernel) ?_
            refine lv_ishr hx hb dL_keeps_97 ?_
            refine lv_aload hx hb dL_keeps_98 (lv_at hl 12 rfl) ?_
            refine lv_iconst (v := nI 0) hx hb dL_keeps_100 (by decide +kernel) ?_
            refine nv_ialdE (q0 := 7) (t0 := 0) (v := s_now σ) (l_g σ) (rfl) hx hb hK hP rfl rfl (by decide) (by decide) dL_keeps_101 ?_
            refine lv_iconst (v := nI 1) hx hb dL_keeps_102 (by decide +kernel) ?_
            refine nv_iadd hx hb dL_keeps_103 ?_
            refine vp_callSi (va_Run.run (va_runS (As := [.int (z >>> ((nI 3) &&& 31)), .int (nI ((s_now σ) + 1))]) (rest := []) ⟨hx, hb, hml, hown, hts⟩ (c_L_low l dD cI cR cS lo (z >>> ((nI 3) &&& 31)) ((s_now σ) + 1) (by omega) (by omega)) (va_cwS 2 hts gL_keeps_L_low rfl rfl rfl (by decide +kernel) ⟨Nat.le_of_ble_eq_true rfl, Nat.le_of_ble_eq_true rfl⟩) (ePreS hE (hS.mono hAlo) trivial) rfl rfl hl.1 rfl (lv_room (Nat.le_of_ble_eq_true rfl)) dL_keeps_104 ⟨(by omega : 0 + 0 ≤ 60), (by omega : 0 + 0 ≤ 400)⟩)) (fun r_104 hr_104 => ?_)
            obtain ⟨j, hj, rfl⟩ := hr_104
            refine lv_goto (tgt := 123) hx hb dL_keeps_107 (by decide) ?_
            refine lv_istore (lv' := [(15, .int (nI j)), (14, .int (nI (pN (10 * f + e)))), (0, .ref x0), (1, .int (nI ac)), (2, .int y), (3, .int z), (4, .ref (la 0)), (5, .ref (la 1)), (6, .ref (la 2)), (7, .ref (la 3)), (8, .ref (la 4)), (9, .ref (la 5)), (10, .ref (la 6)), (11, .ref (la 7)), (12, .int (nI f)), (13, .int (nI e))]) hx hb dL_keeps_123 hl (by decide) rfl (fun ls hl => ?_)
            refine lv_iload hx hb dL_keeps_125 (lv_at hl 0 rfl) ?_
            refine nv_if_geT (tgt := 134) hx hb dL_keeps_127 (by decide) (by omega) ?_
            refine lv_iload hx hb dL_keeps_134 (lv_at hl 0 rfl) ?_
            refine lv_istore (lv' := [(15, .int (nI j)), (14, .int (nI (pN (10 * f + e)))), (0, .ref x0), (1, .int (nI ac)), (2, .int y), (3, .int z), (4, .ref (la 0)), (5, .ref (la 1)), (6, .ref (la 2)), (7, .ref (la 3)), (8, .ref (la 4)), (9, .ref (la 5)), (10, .ref (la 6)), (11, .ref (la 7)), (12, .int (nI f)), (13, .int (nI e))]) hx hb dL_keeps_136 hl (by decide) rfl (fun ls hl => ?_)
            exact hj_138 j (by omega) _ _ hP hD hS ls (lv_sub hl [1, 2, 3, 4, 5, 6, 7, 8, 9, 10, 11, 12, 13, 14, 15, 0] rfl)
        · refine lv_aload hx hb dL_keeps_80 (lv_at hl 12 rfl) ?_
          refine lv_iconst (v := nI 0) hx hb dL_keeps_82 (by decide +kernel) ?_
          refine nv_ialdE (q0 := 7) (t0 := 0) (v := s_now σ) (l_g σ) (rfl) hx hb hK hP rfl rfl (by decide) (by decide) dL_keeps_83 ?_
          refine lv_goto (tgt := 123) hx hb dL_keeps_84 (by decide) ?_
          refine lv_istore (lv' := [(15, .int (nI (s_now σ))), (14, .int (nI (pN (10 * f + e)))), (0, .ref x0), (1, .int (nI ac)), (2, .int y), (3, .int z), (4, .ref (la 0)), (5, .ref (la 1)), (6, .ref (la 2)), (7, .ref (la 3)), (8, .ref (la 4)), (9, .ref (la 5)), (10, .ref (la 6)), (11, .ref (la 7)), (12, .int (nI f)), (13, .int (nI e))]) hx hb dL_keeps_123 hl (by decide) rfl (fun ls hl => ?_)
          refine lv_iload hx hb dL_keeps_125 (lv_at hl 0 rfl) ?_
          refine nv_if_geT (tgt := 134) hx hb dL_keeps_127 (by decide) (by omega) ?_
          refine lv_iload hx hb dL_keeps_134 (lv_at hl 0 rfl) ?_
          refine lv_istore (lv' := [(15, .int (nI (s_now σ))), (14, .int (nI (pN (10 * f + e)))), (0, .ref x0), (1, .int (nI ac)), (2, .int y), (3, .int z), (4, .ref (la 0)), (5, .ref (la 1)), (6, .ref (la 2)), (7, .ref (la 3)), (8, .ref (la 4)), (9, .ref (la 5)), (10, .ref (la 6)), (11, .ref (la 7)), (12, .int (nI f)), (13, .int (nI e))]) hx hb dL_keeps_136 hl (by decide) rfl (fun ls hl => ?_)
          exact hj_138 (s_now σ) (by omega) _ _ hP hD hS ls (lv_sub hl [1, 2, 3, 4, 5, 6, 7, 8, 9, 10, 11, 12, 13, 14, 15, 0] rfl)
    refine lv_iload_n hx hb dL_keeps_27 rfl (lv_at hl 2 rfl) ?_
    refine lv_sipush (v := nI 768) hx hb dL_keeps_28 (by decide +kernel) ?_
    refine lv_iand hx hb dL_keeps_31 ?_
    refine lv_if_ne (tgt := 47) hx hb dL_keeps_32 (by decide) (fun c_32 => ?_) (fun c_32 => ?_)
    · refine lv_iload_n hx hb dL_keeps_47 rfl (lv_at hl 2 rfl) ?_
      refine lv_bipush (v := nI 10) hx hb dL_keeps_48 (by decide +kernel) ?_
      refine lv_ishr hx hb dL_keeps_50 ?_
      refine lv_iconst (v := nI 2) hx hb dL_keeps_51 (by decide +kernel) ?_
      refine vp_callSi (va_Run.run (va_runS (As := [.int (y >>> ((nI 10) &&& 31)), .int (nI 2)]) (rest := []) ⟨hx, hb, hml, hown, hts⟩ (c_L_low l dD cI cR cS lo (y >>> ((nI 10) &&& 31)) (2) (by omega) (by omega)) (va_cwS 2 hts gL_keeps_L_low rfl rfl rfl (by decide +kernel) ⟨Nat.le_of_ble_eq_true rfl, Nat.le_of_ble_eq_true rfl⟩) (ePreS hE (hS.mono hAlo) trivial) rfl rfl hl.1 rfl (lv_room (Nat.le_of_ble_eq_true rfl)) dL_keeps_52 ⟨(by omega : 0 + 0 ≤ 60), (by omega : 0 + 0 ≤ 400)⟩)) (fun r_52 hr_52 => ?_)
      obtain ⟨j, hj, rfl⟩ := hr_52
      refine lv_istore (lv' := [(13, .int (nI j)), (0, .ref x0), (1, .int (nI ac)), (2, .int y), (3, .int z), (4, .ref (la 0)), (5, .ref (la 1)), (6, .ref (la 2)), (7, .ref (la 3)), (8, .ref (la 4)), (9, .ref (la 5)), (10, .ref (la 6)), (11, .ref (la 7)), (12, .int (nI f))]) hx hb dL_keeps_55 hl (by decide) rfl (fun ls hl => ?_)
      exact hj_57 j (by omega) _ _ hP hD hS ls (lv_sub hl [1, 2, 3, 4, 5, 6, 7, 8, 9, 10, 11, 12, 13, 0] rfl)
    · refine lv_iload_n hx hb dL_keeps_35 rfl (lv_at hl 2 rfl) ?_
      refine lv_bipush (v := nI 10) hx hb dL_keeps_36 (by decide +kernel) ?_
      refine lv_ishr hx hb dL_keeps_38 ?_
      refine lv_bipush (v := nI 10) hx hb dL_keeps_39 (by decide +kernel) ?_
      refine vp_callSi (va_Run.run (va_runS (As := [.int (y >>> ((nI 10) &&& 31)), .int (nI 10)]) (rest := []) ⟨hx, hb, hml, hown, hts⟩ (c_L_low l dD cI cR cS lo (y >>> ((nI 10) &&& 31)) (10) (by omega) (by omega)) (va_cwS 2 hts gL_keeps_L_low rfl rfl rfl (by decide +kernel) ⟨Nat.le_of_ble_eq_true rfl, Nat.le_of_ble_eq_true rfl⟩) (ePreS hE (hS.mono hAlo) trivial) rfl rfl hl.1 rfl (lv_room (Nat.le_of_ble_eq_true rfl)) dL_keeps_41 ⟨(by omega : 0 + 0 ≤ 60), (by omega : 0 + 0 ≤ 400)⟩)) (fun r_41 hr_41 => ?_)
      obtain ⟨j, hj, rfl⟩ := hr_41
      refine lv_goto (tgt := 55) hx hb dL_keeps_44 (by decide) ?_
      refine lv_istore (lv' := [(13, .int (nI j)), (0, .ref x0), (1, .int (nI ac)), (2, .int y), (3, .int z), (4, .ref (la 0)), (5, .ref (la 1)), (6, .ref (la 2)), (7, .ref (la 3)), (8, .ref (la 4)), (9, .ref (la 5)), (10, .ref (la 6)), (11, .ref (la 7)), (12, .int (nI f))]) hx hb dL_keeps_55 hl (by decide) rfl (fun ls hl => ?_)
      exact hj_57 j (by omega) _ _ hP hD hS ls (lv_sub hl [1, 2, 3, 4, 5, 6, 7, 8, 9, 10, 11, 12, 13, 0] rfl)
  refine lv_iload_n hx hb dL_keeps_0 rfl (lv_at hl 2 rfl) ?_
  refine lv_bipush (v := nI 24) hx hb dL_keeps_1 (by decide +kernel) ?_
  refine lv_iand hx hb dL_keeps_3 ?_
  refine lv_if_ne (tgt := 18) hx hb dL_keeps_4 (by decide) (fun c_4 => ?_) (fun c_4 => ?_)
  · refine lv_iload_n hx hb dL_keeps_18 rfl (lv_at hl 2 rfl) ?_
    refine lv_iconst (v := nI 5) hx hb dL_keeps_19 (by decide +kernel) ?_
    refine lv_ishr hx hb dL_keeps_20 ?_
    refine lv_iconst (v := nI 2) hx hb dL_keeps_21 (by decide +kernel) ?_
    refine vp_callSi (va_Run.run (va_runS (As := [.int (y >>> ((nI 5) &&& 31)), .int (nI 2)]) (rest := []) ⟨hx, hb, hml, hown, hts⟩ (c_L_low l dD cI cR cS lo (y >>> ((nI 5) &&& 31)) (2) (by omega) (by omega)) (va_cwS 2 hts gL_keeps_L_low rfl rfl rfl (by decide +kernel) ⟨Nat.le_of_ble_eq_true rfl, Nat.le_of_ble_eq_true rfl⟩) (ePreS hE (hS.mono hAlo) trivial) rfl rfl hl.1 rfl (lv_room (Nat.le_of_ble_eq_true rfl)) dL_keeps_22 ⟨(by omega : 0 + 0 ≤ 60), (by omega : 0 + 0 ≤ 400)⟩)) (fun r_22 hr_22 => ?_)
    obtain ⟨j, hj, rfl⟩ := hr_22
    refine lv_istore (lv' := [(12, .int (nI j)), (0, .ref x0), (1, .int (nI ac)), (2, .int y), (3, .int z), (4, .ref (la 0)), (5, .ref (la 1)), (6, .ref (la 2)), (7, .ref (la 3)), (8, .ref (la 4)), (9, .ref (la 5)), (10, .ref (la 6)), (11, .ref (la 7))]) hx hb dL_keeps_25 hl (by decide) rfl (fun ls hl => ?_)
    exact hj_27 j (by omega) _ _ hP hD hS ls (lv_sub hl [1, 2, 3, 4, 5, 6, 7, 8, 9, 10, 11, 12, 0] rfl)
  · refine lv_iload_n hx hb dL_keeps_7 rfl (lv_at hl 2 rfl) ?_
    refine lv_iconst (v := nI 5) hx hb dL_keeps_8 (by decide +kernel) ?_
    refine lv_ishr hx hb dL_keeps_9 ?_
    refine lv_bipush (v := nI 6) hx hb dL_keeps_10 (by decide +kernel) ?_
    refine vp_callSi (va_Run.run (va_runS (As := [.int (y >>> ((nI 5) &&& 31)), .int (nI 6)]) (rest := []) ⟨hx, hb, hml, hown, hts⟩ (c_L_low l dD cI cR cS lo (y >>> ((nI 5) &&& 31)) (6) (by omega) (by omega)) (va_cwS 2 hts gL_keeps_L_low rfl rfl rfl (by decide +kernel) ⟨Nat.le_of_ble_eq_true rfl, Nat.le_of_ble_eq_true rfl⟩) (ePreS hE (hS.mono hAlo) trivial) rfl rfl hl.1 rfl (lv_room (Nat.le_of_ble_eq_true rfl)) dL_keeps_12 ⟨(by omega : 0 + 0 ≤ 60), (by omega : 0 + 0 ≤ 400)⟩)) (fun r_12 hr_12 => ?_)
    obtain ⟨j, hj, rfl⟩ := hr_12
    refine lv_goto (tgt := 25) hx hb dL_keeps_15 (by decide) ?_
    refine lv_istore (lv' := [(12, .int (nI j)), (0, .ref x0), (1, .int (nI ac)), (2, .int y), (3, .int z), (4, .ref (la 0)), (5, .ref (la 1)), (6, .ref (la 2)), (7, .ref (la 3)), (8, .ref (la 4)), (9, .ref (la 5)), (10, .ref (la 6)), (11, .ref (la 7))]) hx hb dL_keeps_25 hl (by decide) rfl (fun ls hl => ?_)
    exact hj_27 j (by omega) _ _ hP hD hS ls (lv_sub hl [1, 2, 3, 4, 5, 6, 7, 8, 9, 10, 11, 12, 0] rfl)
