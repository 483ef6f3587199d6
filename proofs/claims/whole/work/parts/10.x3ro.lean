/-! the reference: the methods that leave the heap as it is (laid by wip/whole/gen/x3ro.py) -/
set_option maxHeartbeats 4000000 in
set_option maxRecDepth 100000 in
theorem c_X3_in (l : Launch) (dD : va_G) (cI cR cS : ClassId) (lo : Nat) (v lw hg : Int32) : Met l yX3_in wsX3_in ({ frames := 0, cells := 0, slots := 0, locals := 0 }) (ePc dD cI cR cS lo [.int v, .int lw, .int hg] (fun H => True)) (vp_Si (fun r => (r = nI 1 ∧ lw ≤ v ∧ v ≤ hg) ∨ (r = nI 0 ∧ ¬ (lw ≤ v ∧ v ≤ hg)))) 0 0 (fun _ => False) := by
  refine Met.ofW (cc := cX3_in) (maxL := 3) (ret := (some .boolean)) (by decide) rfl ?_
  intro p e_ s m args below meth c s₁ B hml hv
  obtain ⟨rfl, hE, hP⟩ := hv
  have hx := B.exec
  have hb := B.bytes
  have hr := B.returns
  have hts := atoms_spec (ws := wsX3_in) B.pre
  have hown : s.vm.findClass RX3 = some m.cls := findClass_of_methodNamed B.named
  have hlocks := B.notSynchronized
  have hK := hE.1.1
  have hl := lv_entry ([.int v, .int lw, .int hg]) (n := 3) (Nat.le_of_ble_eq_true rfl)
  rw [lg_entry_eq]
  generalize (lg_sl ([.int v, .int lw, .int hg]) ++ List.replicate (3 - (lg_sl ([.int v, .int lw, .int hg])).length) Slot.unset).toArray = ls at hl ⊢
  have hl : lv_has ls 3 [(0, .int v), (1, .int lw), (2, .int hg)] := hl
  refine lv_iload_n hx hb dX3_in_0 rfl (lv_at hl 0 rfl) ?_
  refine lv_iload_n hx hb dX3_in_1 rfl (lv_at hl 1 rfl) ?_
  refine lv_icmp_lt (tgt := 14) hx hb dX3_in_2 (by decide) (fun c_2 => ?_) (fun c_2 => ?_)
  · refine lv_iconst (v := nI 0) hx hb dX3_in_14 (by decide +kernel) ?_
    exact W.zret (v := nI 0) hx hb hr rfl (fun u9 hu9 hW => ⟨nI 0, rfl, Or.inr ⟨rfl, fun h => absurd c_2 (Int32.not_lt.mpr h.1)⟩, hu9⟩) (fun q h => absurd h List.not_mem_nil) dX3_in_15
  · refine lv_iload_n hx hb dX3_in_5 rfl (lv_at hl 0 rfl) ?_
    refine lv_iload_n hx hb dX3_in_6 rfl (lv_at hl 2 rfl) ?_
    refine lv_icmp_gt (tgt := 14) hx hb dX3_in_7 (by decide) (fun c_7 => ?_) (fun c_7 => ?_)
    · refine lv_iconst (v := nI 0) hx hb dX3_in_14 (by decide +kernel) ?_
      exact W.zret (v := nI 0) hx hb hr rfl (fun u9 hu9 hW => ⟨nI 0, rfl, Or.inr ⟨rfl, fun h => absurd c_7 (Int32.not_lt.mpr h.2)⟩, hu9⟩) (fun q h => absurd h List.not_mem_nil) dX3_in_15
    · refine lv_iconst (v := nI 1) hx hb dX3_in_10 (by decide +kernel) ?_
      refine lv_goto (tgt := 15) hx hb dX3_in_11 (by decide) ?_
      exact W.zret (v := nI 1) hx hb hr rfl (fun u9 hu9 hW => ⟨nI 1, rfl, Or.inl ⟨rfl, Int32.not_lt.mp c_2, Int32.not_lt.mp c_7⟩, hu9⟩) (fun q h => absurd h List.not_mem_nil) dX3_in_15

set_option maxHeartbeats 4000000 in
set_option maxRecDepth 100000 in
theorem c_X3_isPair (l : Launch) (dD : va_G) (cI cR cS : ClassId) (lo : Nat) (f e : Int32) : Met l yX3_isPair wsX3_isPair ({ frames := 1, cells := 0, slots := 0, locals := 22 }) (ePc dD cI cR cS lo [.int f, .int e] (fun H => True)) (vp_Si (fun r => (r = nI 1 ∧ rg f 0 5 ∧ rg e 0 9) ∨ (r = nI 0 ∧ ¬ (rg f 0 5 ∧ rg e 0 9)))) 0 0 (fun _ => False) := by
  refine Met.ofW (cc := cX3_isPair) (maxL := 2) (ret := (some .boolean)) (by decide) rfl ?_
  intro p e_ s m args below meth c s₁ B hml hv
  obtain ⟨rfl, hE, hP⟩ := hv
  have hx := B.exec
  have hb := B.bytes
  have hr := B.returns
  have hts := atoms_spec (ws := wsX3_isPair) B.pre
  have hown : s.vm.findClass RX3 = some m.cls := findClass_of_methodNamed B.named
  have hlocks := B.notSynchronized
  have hK := hE.1.1
  have hl := lv_entry ([.int f, .int e]) (n := 2) (Nat.le_of_ble_eq_true rfl)
  rw [lg_entry_eq]
  generalize (lg_sl ([.int f, .int e]) ++ List.replicate (2 - (lg_sl ([.int f, .int e])).length) Slot.unset).toArray = ls at hl ⊢
  have hl : lv_has ls 2 [(0, .int f), (1, .int e)] := hl
  refine lv_iload_n hx hb dX3_isPair_0 rfl (lv_at hl 0 rfl) ?_
  refine lv_iconst (v := nI 0) hx hb dX3_isPair_1 (by decide +kernel) ?_
  refine lv_iconst (v := nI 5) hx hb dX3_isPair_2 (by decide +kernel) ?_
  refine vp_callSi (va_Run.run (va_runS (As := [.int f, .int (nI 0), .int (nI 5)]) (rest := []) ⟨hx, hb, hml, hown, hts⟩ (c_X3_in l dD cI cR cS lo f (nI 0) (nI 5)) (va_cwS 3 hts gX3_isPair_X3_in rfl rfl rfl (by decide +kernel) ⟨Nat.le_of_ble_eq_true rfl, Nat.le_of_ble_eq_true rfl⟩) (ePreS hE va_S.rf trivial) rfl rfl hl.1 rfl (lv_room (Nat.le_of_ble_eq_true rfl)) dX3_isPair_3 ⟨Nat.le_of_ble_eq_true rfl, Nat.le_of_ble_eq_true rfl⟩)) (fun r_3 hr_3 => ?_)
  rcases hr_3 with ⟨rfl, hr_3⟩ | ⟨rfl, hr_3⟩
  · refine nv_if_eq (tgt := 23) hx hb dX3_isPair_6 (by decide) (by decide) (fun c_6 => absurd c_6 (by decide)) (fun c_6 => ?_)
    refine lv_iload_n hx hb dX3_isPair_9 rfl (lv_at hl 1 rfl) ?_
    refine lv_iconst (v := nI 0) hx hb dX3_isPair_10 (by decide +kernel) ?_
    refine lv_bipush (v := nI 9) hx hb dX3_isPair_11 (by decide +kernel) ?_
    refine vp_callSi (va_Run.run (va_runS (As := [.int e, .int (nI 0), .int (nI 9)]) (rest := []) ⟨hx, hb, hml, hown, hts⟩ (c_X3_in l dD cI cR cS lo e (nI 0) (nI 9)) (va_cwS 3 hts gX3_isPair_X3_in rfl rfl rfl (by decide +kernel) ⟨Nat.le_of_ble_eq_true rfl, Nat.le_of_ble_eq_true rfl⟩) (ePreS hE va_S.rf trivial) rfl rfl hl.1 rfl (lv_room (Nat.le_of_ble_eq_true rfl)) dX3_isPair_13 ⟨Nat.le_of_ble_eq_true rfl, Nat.le_of_ble_eq_true rfl⟩)) (fun r_13 hr_13 => ?_)
    rcases hr_13 with ⟨rfl, hr_13⟩ | ⟨rfl, hr_13⟩
    · refine nv_if_eq (tgt := 23) hx hb dX3_isPair_16 (by decide) (by decide) (fun c_16 => absurd c_16 (by decide)) (fun c_16 => ?_)
      refine lv_iconst (v := nI 1) hx hb dX3_isPair_19 (by decide +kernel) ?_
      refine lv_goto (tgt := 24) hx hb dX3_isPair_20 (by decide) ?_
      exact W.zret (v := nI 1) hx hb hr rfl (fun u9 hu9 hW => ⟨nI 1, rfl, Or.inl ⟨rfl, hr_3, hr_13⟩, hu9⟩) (fun q h => absurd h List.not_mem_nil) dX3_isPair_24
    · refine nv_if_eq (tgt := 23) hx hb dX3_isPair_16 (by decide) (by decide) (fun c_16 => ?_) (fun c_16 => absurd c_16 (by decide))
      refine lv_iconst (v := nI 0) hx hb dX3_isPair_23 (by decide +kernel) ?_
      exact W.zret (v := nI 0) hx hb hr rfl (fun u9 hu9 hW => ⟨nI 0, rfl, Or.inr ⟨rfl, fun h => hr_13 h.2⟩, hu9⟩) (fun q h => absurd h List.not_mem_nil) dX3_isPair_24
  · refine nv_if_eq (tgt := 23) hx hb dX3_isPair_6 (by decide) (by decide) (fun c_6 => ?_) (fun c_6 => absurd c_6 (by decide))
    refine lv_iconst (v := nI 0) hx hb dX3_isPair_23 (by decide +kernel) ?_
    exact W.zret (v := nI 0) hx hb hr rfl (fun u9 hu9 hW => ⟨nI 0, rfl, Or.inr ⟨rfl, fun h => hr_3 h.1⟩, hu9⟩) (fun q h => absurd h List.not_mem_nil) dX3_isPair_24

set_option maxHeartbeats 4000000 in
set_option maxRecDepth 100000 in
theorem c_X3_pairOf (l : Launch) (dD : va_G) (cI cR cS : ClassId) (lo : Nat) (f e : Nat) : Met l yX3_pairOf wsX3_pairOf ({ frames := 0, cells := 0, slots := 0, locals := 0 }) (ePc dD cI cR cS lo [.int (nI f), .int (nI e)] (fun H => True)) (vp_Si (fun r => r = nI (10 * f + e))) 0 0 (fun _ => False) := by
  refine Met.ofW (cc := cX3_pairOf) (maxL := 2) (ret := (some .int)) (by decide) rfl ?_
  intro p e_ s m args below meth c s₁ B hml hv
  obtain ⟨rfl, hE, hP⟩ := hv
  have hx := B.exec
  have hb := B.bytes
  have hr := B.returns
  have hts := atoms_spec (ws := wsX3_pairOf) B.pre
  have hown : s.vm.findClass RX3 = some m.cls := findClass_of_methodNamed B.named
  have hlocks := B.notSynchronized
  have hK := hE.1.1
  have hl := lv_entry ([.int (nI f), .int (nI e)]) (n := 2) (Nat.le_of_ble_eq_true rfl)
  rw [lg_entry_eq]
  generalize (lg_sl ([.int (nI f), .int (nI e)]) ++ List.replicate (2 - (lg_sl ([.int (nI f), .int (nI e)])).length) Slot.unset).toArray = ls at hl ⊢
  have hl : lv_has ls 2 [(0, .int (nI f)), (1, .int (nI e))] := hl
  refine lv_bipush (v := nI 10) hx hb dX3_pairOf_0 (by decide +kernel) ?_
  refine lv_iload_n hx hb dX3_pairOf_2 rfl (lv_at hl 0 rfl) ?_
  refine nv_imul hx hb dX3_pairOf_3 ?_
  refine lv_iload_n hx hb dX3_pairOf_4 rfl (lv_at hl 1 rfl) ?_
  refine nv_iadd hx hb dX3_pairOf_5 ?_
  exact W.iret (v := nI ((10 * f) + e)) hx hb hr (fun u9 hu9 hW => ⟨nI ((10 * f) + e), rfl, rfl, hu9⟩) (fun q h => absurd h List.not_mem_nil) dX3_pairOf_6

set_option maxHeartbeats 4000000 in
set_option maxRecDepth 100000 in
theorem c_X3_fresh (l : Launch) (dD : va_G) (cI cR cS : ClassId) (lo : Nat) (m0 : Nat) (a : Nat → Nat) (th : Nat) (σ : St) (hI : sI σ) (o t : Nat) (ho : o ≤ s_n σ) (ht : t ≤ 20000) : Met l yX3_fresh wsX3_fresh ({ frames := 0, cells := 0, slots := 0, locals := 0 }) (ePc dD cI cR cS lo [.ref m0, .int (eN o), .int (nI t)] (fun H => va_P dD vwCl (mW cI m0 a th σ) H)) (vp_Si (fun r => r = eN (q_fr σ o t))) 0 0 (fun _ => False) := by
  refine Met.ofW (cc := cX3_fresh) (maxL := 4) (ret := (some .int)) (by decide) rfl ?_
  intro p e_ s m args below meth c s₁ B hml hv
  obtain ⟨rfl, hE, hP⟩ := hv
  have hx := B.exec
  have hb := B.bytes
  have hr := B.returns
  have hts := atoms_spec (ws := wsX3_fresh) B.pre
  have hown : s.vm.findClass RX3 = some m.cls := findClass_of_methodNamed B.named
  have hlocks := B.notSynchronized
  have hK := hE.1.1
  have hinX3 : ∀ w ∈ u_ws RX3 TX3 14, w ∈ wsX3_fresh := by decide +kernel
  obtain ⟨i_now, i_n, i_tk, i_k, i_lt, i_row, i_cp, i_srv⟩ := id hI
  have hl := lv_entry ([.ref m0, .int (eN o), .int (nI t)]) (n := 4) (Nat.le_of_ble_eq_true rfl)
  rw [lg_entry_eq]
  generalize (lg_sl ([.ref m0, .int (eN o), .int (nI t)]) ++ List.replicate (4 - (lg_sl ([.ref m0, .int (eN o), .int (nI t)])).length) Slot.unset).toArray = ls at hl ⊢
  have hl : lv_has ls 4 [(0, .ref m0), (1, .int (eN o)), (2, .int (nI t))] := hl
  refine lv_iload_n hx hb dX3_fresh_0 rfl (lv_at hl 1 rfl) ?_
  refine lv_iconst (v := (-1)) hx hb dX3_fresh_1 (by decide +kernel) ?_
  refine nv_eqNone (tgt := 34) hx hb dX3_fresh_2 (by decide) (by omega) (fun c_2 => ?_) (fun c_2 => ?_)
  · refine lv_iconst (v := nI 0) hx hb dX3_fresh_34 (by decide +kernel) ?_
    refine lv_istore_n (lv' := [(3, .int (nI 0)), (0, .ref m0), (1, .int (eN o)), (2, .int (nI t))]) hx hb dX3_fresh_35 rfl hl (by decide) rfl (fun ls hl => ?_)
    refine lv_iload_n hx hb dX3_fresh_36 rfl (lv_at hl 0 rfl) ?_
    refine nv_if_eq (tgt := 44) hx hb dX3_fresh_37 (by decide) (by decide) (fun c_37 => ?_) (fun c_37 => absurd c_37 (by decide))
    refine lv_iconst (v := (-1)) hx hb dX3_fresh_44 (by decide +kernel) ?_
    exact W.iret (v := ((-1))) hx hb hr (fun u9 hu9 hW => ⟨((-1)), rfl, (by simp only [q_fr, if_pos c_2]; rfl), hu9⟩) (fun q h => absurd h List.not_mem_nil) dX3_fresh_45
  · have hz_o : o - 1 < s_n σ := by omega
    have hl : lv_has ls 4 [(0, .ref m0), (1, .int (nI (o - 1))), (2, .int (nI t))] := by rw [← eN_pos c_2]; exact hl
    obtain ⟨hz_1, hz_2, hz_3, hz_4⟩ := i_row (o - 1) hz_o
    have hz_5 := i_lt (s_pr σ (o - 1) / 10) (by omega)
    refine lv_aload_n hx hb dX3_fresh_5 rfl (lv_at hl 0 rfl) ?_
    refine va_get (D := dD) (ci := 3) (v := .ref (a 2)) (C := RX3) (T := TX3) (N := 14) hx hb hts hinX3 hown hK hP 0 rfl rfl 5 (by decide) (hts (.fieldLink RX3 16 "FeatureStoreModel" "event" "[I") (by decide +kernel)) (fun _ h9 => h9) rfl dX3_fresh_6 ?_
    refine lv_iload_n hx hb dX3_fresh_9 rfl (lv_at hl 1 rfl) ?_
    refine nv_iald (q0 := 3) (t0 := 0) (s_ev σ) hx hb hK hP rfl rfl (by omega) (by decide) dX3_fresh_10 ?_
    refine lv_iload_n hx hb dX3_fresh_11 rfl (lv_at hl 2 rfl) ?_
    refine lv_aload_n hx hb dX3_fresh_12 rfl (lv_at hl 0 rfl) ?_
    refine va_get (D := dD) (ci := 3) (v := .ref (a 0)) (C := RX3) (T := TX3) (N := 14) hx hb hts hinX3 hown hK hP 0 rfl rfl 2 (by decide) (hts (.fieldLink RX3 7 "FeatureStoreModel" "lifetime" "[I") (by decide +kernel)) (fun _ h9 => h9) rfl dX3_fresh_13 ?_
    refine lv_aload_n hx hb dX3_fresh_16 rfl (lv_at hl 0 rfl) ?_
    refine va_get (D := dD) (ci := 3) (v := .ref (a 1)) (C := RX3) (T := TX3) (N := 14) hx hb hts hinX3 hown hK hP 0 rfl rfl 4 (by decide) (hts (.fieldLink RX3 13 "FeatureStoreModel" "pair" "[I") (by decide +kernel)) (fun _ h9 => h9) rfl dX3_fresh_17 ?_
    refine lv_iload_n hx hb dX3_fresh_20 rfl (lv_at hl 1 rfl) ?_
    refine nv_iald (q0 := 2) (t0 := 0) (s_pr σ) hx hb hK hP rfl rfl (by omega) (by decide) dX3_fresh_21 ?_
    refine lv_bipush (v := nI 10) hx hb dX3_fresh_22 (by decide +kernel) ?_
    refine nv_idiv hx hb dX3_fresh_24 (by omega) (by omega) (by omega) ?_
    refine nv_iald (q0 := 1) (t0 := 0) (s_lt σ) hx hb hK hP rfl rfl (by omega) (by decide) dX3_fresh_25 ?_
    refine lv_isub hx hb dX3_fresh_26 ?_
    refine lv_icmp_lt (tgt := 34) hx hb dX3_fresh_27 (by decide) (fun c_27 => ?_) (fun c_27 => ?_)
    · refine lv_iconst (v := nI 0) hx hb dX3_fresh_34 (by decide +kernel) ?_
      refine lv_istore_n (lv' := [(3, .int (nI 0)), (0, .ref m0), (1, .int (nI (o - 1))), (2, .int (nI t))]) hx hb dX3_fresh_35 rfl hl (by decide) rfl (fun ls hl => ?_)
      refine lv_iload_n hx hb dX3_fresh_36 rfl (lv_at hl 0 rfl) ?_
      refine nv_if_eq (tgt := 44) hx hb dX3_fresh_37 (by decide) (by decide) (fun c_37 => ?_) (fun c_37 => absurd c_37 (by decide))
      refine lv_iconst (v := (-1)) hx hb dX3_fresh_44 (by decide +kernel) ?_
      exact W.iret (v := ((-1))) hx hb hr (fun u9 hu9 hW => ⟨((-1)), rfl, (by have h9 : ¬ t ≤ s_ev σ (o - 1) + s_lt σ (s_pr σ (o - 1) / 10) := fun z => absurd c_27 (Int32.not_lt.mpr ((fr_cmp (by omega) (by omega) (by omega)).mpr z)); simp only [q_fr, if_neg c_2, if_neg h9]; rfl), hu9⟩) (fun q h => absurd h List.not_mem_nil) dX3_fresh_45
    · refine lv_iconst (v := nI 1) hx hb dX3_fresh_30 (by decide +kernel) ?_
      refine lv_goto (tgt := 35) hx hb dX3_fresh_31 (by decide) ?_
      refine lv_istore_n (lv' := [(3, .int (nI 1)), (0, .ref m0), (1, .int (nI (o - 1))), (2, .int (nI t))]) hx hb dX3_fresh_35 rfl hl (by decide) rfl (fun ls hl => ?_)
      refine lv_iload_n hx hb dX3_fresh_36 rfl (lv_at hl 0 rfl) ?_
      refine nv_if_eq (tgt := 44) hx hb dX3_fresh_37 (by decide) (by decide) (fun c_37 => absurd c_37 (by decide)) (fun c_37 => ?_)
      refine lv_iload_n hx hb dX3_fresh_40 rfl (lv_at hl 2 rfl) ?_
      refine lv_goto (tgt := 45) hx hb dX3_fresh_41 (by decide) ?_
      exact W.iret (v := nI (o - 1)) hx hb hr (fun u9 hu9 hW => ⟨nI (o - 1), rfl, (by have h9 := (fr_cmp (by omega) (by omega) (by omega)).mp (Int32.not_lt.mp c_27); rw [← eN_pos c_2]; simp only [q_fr, if_neg c_2, if_pos h9]), hu9⟩) (fun q h => absurd h List.not_mem_nil) dX3_fresh_45

theorem q_best_le (σ : St) (q t k : Nat) : ∀ r : Nat, q_best σ q t k r ≤ r
  | 0 => Nat.le_refl _
  | r + 1 => by
    have h := q_best_le σ q t k r
    simp only [q_best]
    split <;> omega

set_option maxHeartbeats 4000000 in
set_option maxRecDepth 100000 in
theorem c_X3_joins (l : Launch) (dD : va_G) (cI cR cS : ClassId) (lo : Nat) (m0 : Nat) (a : Nat → Nat) (th : Nat) (σ : St) (hI : sI σ) (q t k : Nat) (hq : q < 60) (ht : t ≤ 20000) (hk : k ≤ 20000) : Met l yX3_joins wsX3_joins ({ frames := 1, cells := 0, slots := 0, locals := 23 }) (ePc dD cI cR cS lo [.ref m0, .int (nI q), .int (nI t), .int (nI k)] (fun H => va_P dD vwCl (mW cI m0 a th σ) H)) (vp_Si (fun r => r = eN (q_join σ q t k))) 0 0 (fun _ => False) := by
  refine Met.ofW (cc := cX3_joins) (maxL := 7) (ret := (some .int)) (by decide) rfl ?_
  intro p e_ s m args below meth c s₁ B hml hv
  obtain ⟨rfl, hE, hP⟩ := hv
  have hx := B.exec
  have hb := B.bytes
  have hr := B.returns
  have hts := atoms_spec (ws := wsX3_joins) B.pre
  have hown : s.vm.findClass RX3 = some m.cls := findClass_of_methodNamed B.named
  have hlocks := B.notSynchronized
  have hK := hE.1.1
  have hinX3 : ∀ w ∈ u_ws RX3 TX3 14, w ∈ wsX3_joins := by decide +kernel
  obtain ⟨i_now, i_n, i_tk, i_k, i_lt, i_row, i_cp, i_srv⟩ := id hI
  have hl := lv_entry ([.ref m0, .int (nI q), .int (nI t), .int (nI k)]) (n := 7) (Nat.le_of_ble_eq_true rfl)
  rw [lg_entry_eq]
  generalize (lg_sl ([.ref m0, .int (nI q), .int (nI t), .int (nI k)]) ++ List.replicate (7 - (lg_sl ([.ref m0, .int (nI q), .int (nI t), .int (nI k)])).length) Slot.unset).toArray = ls at hl ⊢
  have hl : lv_has ls 7 [(0, .ref m0), (1, .int (nI q)), (2, .int (nI t)), (3, .int (nI k))] := hl
  refine lv_iconst (v := (-1)) hx hb dX3_joins_0 (by decide +kernel) ?_
  refine lv_istore (lv' := [(4, .int ((-1))), (0, .ref m0), (1, .int (nI q)), (2, .int (nI t)), (3, .int (nI k))]) hx hb dX3_joins_1 hl (by decide) rfl (fun ls hl => ?_)
  refine lv_iconst (v := nI 0) hx hb dX3_joins_3 (by decide +kernel) ?_
  refine lv_istore (lv' := [(5, .int (nI 0)), (4, .int ((-1))), (0, .ref m0), (1, .int (nI q)), (2, .int (nI t)), (3, .int (nI k))]) hx hb dX3_joins_4 hl (by decide) rfl (fun ls hl => ?_)
  have hlp : ∀ (d : Nat) (r : Nat), r ≤ s_n σ → s_n σ < r + d → ∀ (ls : Array Slot), lv_has ls 7 [(0, .ref m0), (1, .int (nI q)), (2, .int (nI t)), (3, .int (nI k)), (4, .int (eN (q_best σ q t k r))), (5, .int (nI r))] → W p l e_ (headSpec wsX3_joins ({ frames := 1, cells := 0, slots := 0, locals := 23 })).room s m (([.ref m0, .int (nI q), .int (nI t), .int (nI k)] : List Value).toArray) below meth c s.heap [] 0 0 (MQ below (vp_Si (fun r => r = eN (q_join σ q t k))) ([.ref m0, .int (nI q), .int (nI t), .int (nI k)] : List Value).toArray s 0 0 (fun _ => False)) (F0 m 6 ls []) := by
    intro d
    induction d with
    | zero =>
      intro r hr1 hr2 ls hl
      exact absurd hr2 (by omega)
    | succ d ih =>
      intro r hr1 hr2 ls hl
      refine lv_iload hx hb dX3_joins_6 (lv_at hl 5 rfl) ?_
      refine lv_aload_n hx hb dX3_joins_8 rfl (lv_at hl 0 rfl) ?_
      refine va_get (D := dD) (ci := 3) (v := .int (nI (s_n σ))) (C := RX3) (T := TX3) (N := 14) hx hb hts hinX3 hown hK hP 0 rfl rfl 3 (by decide) (hts (.fieldLink RX3 53 "FeatureStoreModel" "rows" "I") (by decide +kernel)) (fun _ h9 => h9) rfl dX3_joins_9 ?_
      refine nv_ge (tgt := 98) hx hb dX3_joins_12 (by decide) (by omega) (by omega) (fun c_12 => ?_) (fun c_12 => ?_)
      · have hre : r = s_n σ := by omega
        subst hre
        have hl : lv_has ls 7 [(0, .ref m0), (1, .int (nI q)), (2, .int (nI t)), (3, .int (nI k)), (4, .int (eN (q_best σ q t k (s_n σ))))] := lv_sub hl [0, 1, 2, 3, 4] rfl
        refine lv_aload_n hx hb dX3_joins_98 rfl (lv_at hl 0 rfl) ?_
        refine lv_iload hx hb dX3_joins_99 (lv_at hl 4 rfl) ?_
        refine lv_iload_n hx hb dX3_joins_101 rfl (lv_at hl 2 rfl) ?_
        refine vp_callSi (va_Run.run (va_runV (As := [.int (eN (q_best σ q t k (s_n σ))), .int (nI t)]) (rest := []) ⟨hx, hb, hml, hown, hts⟩ (c_X3_fresh l dD cI cR cS lo m0 a th σ hI (q_best σ q t k (s_n σ)) t (q_best_le σ q t k _) (by omega)) (cwV 2 hts gX3_joins_X3_fresh rfl rfl rfl (by decide +kernel) ⟨Nat.le_of_ble_eq_true rfl, Nat.le_of_ble_eq_true rfl⟩) (ePreV hE va_S.rf hP (k := 0) rfl rfl hP) rfl rfl hl.1 rfl (lv_room (Nat.le_of_ble_eq_true rfl)) dX3_joins_102 ⟨Nat.le_of_ble_eq_true rfl, Nat.le_of_ble_eq_true rfl⟩)) (fun r_102 hr_102 => ?_)
        subst hr_102
        exact W.iret (v := eN (q_fr σ (q_best σ q t k (s_n σ)) t)) hx hb hr (fun u9 hu9 hW => ⟨eN (q_fr σ (q_best σ q t k (s_n σ)) t), rfl, rfl, hu9⟩) (fun q h => absurd h List.not_mem_nil) dX3_joins_105
      · have hz_r : r < s_n σ := by omega
        obtain ⟨hz_1, hz_2, hz_3, hz_4⟩ := i_row r hz_r
        have hz_b := q_best_le σ q t k r
        refine lv_aload_n hx hb dX3_joins_15 rfl (lv_at hl 0 rfl) ?_
        refine va_get (D := dD) (ci := 3) (v := .ref (a 1)) (C := RX3) (T := TX3) (N := 14) hx hb hts hinX3 hown hK hP 0 rfl rfl 4 (by decide) (hts (.fieldLink RX3 13 "FeatureStoreModel" "pair" "[I") (by decide +kernel)) (fun _ h9 => h9) rfl dX3_joins_16 ?_
        refine lv_iload hx hb dX3_joins_19 (lv_at hl 5 rfl) ?_
        refine nv_iald (q0 := 2) (t0 := 0) (s_pr σ) hx hb hK hP rfl rfl (by omega) (by decide) dX3_joins_21 ?_
        refine lv_iload_n hx hb dX3_joins_22 rfl (lv_at hl 1 rfl) ?_
        refine nv_ne (tgt := 52) hx hb dX3_joins_23 (by decide) (by omega) (by omega) (fun c_23 => ?_) (fun c_23 => ?_)
        · refine lv_iconst (v := nI 0) hx hb dX3_joins_52 (by decide +kernel) ?_
          refine lv_istore (lv' := [(6, .int (nI 0)), (0, .ref m0), (1, .int (nI q)), (2, .int (nI t)), (3, .int (nI k)), (4, .int (eN (q_best σ q t k r))), (5, .int (nI r))]) hx hb dX3_joins_53 hl (by decide) rfl (fun ls hl => ?_)
          refine lv_iload hx hb dX3_joins_55 (lv_at hl 0 rfl) ?_
          refine nv_if_eq (tgt := 88) hx hb dX3_joins_57 (by decide) (by decide) (fun c_57 => ?_) (fun c_57 => absurd c_57 (by decide))
          refine lv_iload hx hb dX3_joins_88 (lv_at hl 5 rfl) ?_
          refine lv_istore (lv' := [(4, .int (eN (q_best σ q t k r))), (6, .int (nI 0)), (0, .ref m0), (1, .int (nI q)), (2, .int (nI t)), (3, .int (nI k)), (5, .int (nI r))]) hx hb dX3_joins_90 hl (by decide) rfl (fun ls hl => ?_)
          refine lv_iinc (v := nI (r + 1)) (lv' := [(5, .int (nI (r + 1))), (4, .int (eN (q_best σ q t k r))), (6, .int (nI 0)), (0, .ref m0), (1, .int (nI q)), (2, .int (nI t)), (3, .int (nI k))]) hx hb dX3_joins_92 hl (k := 6) rfl (nv_inc _ 1) (by decide) rfl (fun ls hl => ?_)
          refine lv_goto (tgt := 6) hx hb dX3_joins_95 (by decide) ?_
          exact ih (r + 1) (by omega) (by omega) ls (by rw [show q_best σ q t k (r + 1) = q_best σ q t k r from by simp only [q_best]; split <;> omega]; exact lv_sub hl [3, 4, 5, 6, 1, 0] rfl)
        · refine lv_aload_n hx hb dX3_joins_26 rfl (lv_at hl 0 rfl) ?_
          refine va_get (D := dD) (ci := 3) (v := .ref (a 2)) (C := RX3) (T := TX3) (N := 14) hx hb hts hinX3 hown hK hP 0 rfl rfl 5 (by decide) (hts (.fieldLink RX3 16 "FeatureStoreModel" "event" "[I") (by decide +kernel)) (fun _ h9 => h9) rfl dX3_joins_27 ?_
          refine lv_iload hx hb dX3_joins_30 (lv_at hl 5 rfl) ?_
          refine nv_iald (q0 := 3) (t0 := 0) (s_ev σ) hx hb hK hP rfl rfl (by omega) (by decide) dX3_joins_32 ?_
          refine lv_iload_n hx hb dX3_joins_33 rfl (lv_at hl 2 rfl) ?_
          refine nv_gt (tgt := 52) hx hb dX3_joins_34 (by decide) (by omega) (by omega) (fun c_34 => ?_) (fun c_34 => ?_)
          · refine lv_iconst (v := nI 0) hx hb dX3_joins_52 (by decide +kernel) ?_
            refine lv_istore (lv' := [(6, .int (nI 0)), (0, .ref m0), (1, .int (nI q)), (2, .int (nI t)), (3, .int (nI k)), (4, .int (eN (q_best σ q t k r))), (5, .int (nI r))]) hx hb dX3_joins_53 hl (by decide) rfl (fun ls hl => ?_)
            refine lv_iload hx hb dX3_joins_55 (lv_at hl 0 rfl) ?_
            refine nv_if_eq (tgt := 88) hx hb dX3_joins_57 (by decide) (by decide) (fun c_57 => ?_) (fun c_57 => absurd c_57 (by decide))
            refine lv_iload hx hb dX3_joins_88 (lv_at hl 5 rfl) ?_
            refine lv_istore (lv' := [(4, .int (eN (q_best σ q t k r))), (6, .int (nI 0)), (0, .ref m0), (1, .int (nI q)), (2, .int (nI t)), (3, .int (nI k)), (5, .int (nI r))]) hx hb dX3_joins_90 hl (by decide) rfl (fun ls hl => ?_)
            refine lv_iinc (v := nI (r + 1)) (lv' := [(5, .int (nI (r + 1))), (4, .int (eN (q_best σ q t k r))), (6, .int (nI 0)), (0, .ref m0), (1, .int (nI q)), (2, .int (nI t)), (3, .int (nI k))]) hx hb dX3_joins_92 hl (k := 6) rfl (nv_inc _ 1) (by decide) rfl (fun ls hl => ?_)
            refine lv_goto (tgt := 6) hx hb dX3_joins_95 (by decide) ?_
            exact ih (r + 1) (by omega) (by omega) ls (by rw [show q_best σ q t k (r + 1) = q_best σ q t k r from by simp only [q_best]; split <;> omega]; exact lv_sub hl [3, 4, 5, 6, 1, 0] rfl)
          · refine lv_aload_n hx hb dX3_joins_37 rfl (lv_at hl 0 rfl) ?_
            refine va_get (D := dD) (ci := 3) (v := .ref (a 3)) (C := RX3) (T := TX3) (N := 14) hx hb hts hinX3 hown hK hP 0 rfl rfl 6 (by decide) (hts (.fieldLink RX3 19 "FeatureStoreModel" "arrival" "[I") (by decide +kernel)) (fun _ h9 => h9) rfl dX3_joins_38 ?_
            refine lv_iload hx hb dX3_joins_41 (lv_at hl 5 rfl) ?_
            refine nv_iald (q0 := 4) (t0 := 0) (s_ar σ) hx hb hK hP rfl rfl (by omega) (by decide) dX3_joins_43 ?_
            refine lv_iload_n hx hb dX3_joins_44 rfl (lv_at hl 3 rfl) ?_
            refine nv_gt (tgt := 52) hx hb dX3_joins_45 (by decide) (by omega) (by omega) (fun c_45 => ?_) (fun c_45 => ?_)
            · refine lv_iconst (v := nI 0) hx hb dX3_joins_52 (by decide +kernel) ?_
              refine lv_istore (lv' := [(6, .int (nI 0)), (0, .ref m0), (1, .int (nI q)), (2, .int (nI t)), (3, .int (nI k)), (4, .int (eN (q_best σ q t k r))), (5, .int (nI r))]) hx hb dX3_joins_53 hl (by decide) rfl (fun ls hl => ?_)
              refine lv_iload hx hb dX3_joins_55 (lv_at hl 0 rfl) ?_
              refine nv_if_eq (tgt := 88) hx hb dX3_joins_57 (by decide) (by decide) (fun c_57 => ?_) (fun c_57 => absurd c_57 (by decide))
              refine lv_iload hx hb dX3_joins_88 (lv_at hl 5 rfl) ?_
              refine lv_istore (lv' := [(4, .int (eN (q_best σ q t k r))), (6, .int (nI 0)), (0, .ref m0), (1, .int (nI q)), (2, .int (nI t)), (3, .int (nI k)), (5, .int (nI r))]) hx hb dX3_joins_90 hl (by decide) rfl (fun ls hl => ?_)
              refine lv_iinc (v := nI (r + 1)) (lv' := [(5, .int (nI (r + 1))), (4, .int (eN (q_best σ q t k r))), (6, .int (nI 0)), (0, .ref m0), (1, .int (nI q)), (2, .int (nI t)), (3, .int (nI k))]) hx hb dX3_joins_92 hl (k := 6) rfl (nv_inc _ 1) (by decide) rfl (fun ls hl => ?_)
              refine lv_goto (tgt := 6) hx hb dX3_joins_95 (by decide) ?_
              exact ih (r + 1) (by omega) (by omega) ls (by rw [show q_best σ q t k (r + 1) = q_best σ q t k r from by simp only [q_best]; split <;> omega]; exact lv_sub hl [3, 4, 5, 6, 1, 0] rfl)
            · refine lv_iconst (v := nI 1) hx hb dX3_joins_48 (by decide +kernel) ?_
              refine lv_goto (tgt := 53) hx hb dX3_joins_49 (by decide) ?_
              refine lv_istore (lv' := [(6, .int (nI 1)), (0, .ref m0), (1, .int (nI q)), (2, .int (nI t)), (3, .int (nI k)), (4, .int (eN (q_best σ q t k r))), (5, .int (nI r))]) hx hb dX3_joins_53 hl (by decide) rfl (fun ls hl => ?_)
              refine lv_iload hx hb dX3_joins_55 (lv_at hl 0 rfl) ?_
              refine nv_if_eq (tgt := 88) hx hb dX3_joins_57 (by decide) (by decide) (fun c_57 => absurd c_57 (by decide)) (fun c_57 => ?_)
              refine lv_iload hx hb dX3_joins_60 (lv_at hl 5 rfl) ?_
              refine lv_iconst (v := (-1)) hx hb dX3_joins_62 (by decide +kernel) ?_
              refine nv_eqNone (tgt := 83) hx hb dX3_joins_63 (by decide) (by omega) (fun c_63 => ?_) (fun c_63 => ?_)
              · refine lv_iload hx hb dX3_joins_83 (lv_at hl 6 rfl) ?_
                refine lv_goto (tgt := 90) hx hb dX3_joins_85 (by decide) ?_
                refine lv_istore (lv' := [(4, .int (nI r)), (6, .int (nI 1)), (0, .ref m0), (1, .int (nI q)), (2, .int (nI t)), (3, .int (nI k)), (5, .int (nI r))]) hx hb dX3_joins_90 hl (by decide) rfl (fun ls hl => ?_)
                refine lv_iinc (v := nI (r + 1)) (lv' := [(5, .int (nI (r + 1))), (4, .int (nI r)), (6, .int (nI 1)), (0, .ref m0), (1, .int (nI q)), (2, .int (nI t)), (3, .int (nI k))]) hx hb dX3_joins_92 hl (k := 6) rfl (nv_inc _ 1) (by decide) rfl (fun ls hl => ?_)
                refine lv_goto (tgt := 6) hx hb dX3_joins_95 (by decide) ?_
                exact ih (r + 1) (by omega) (by omega) ls (by rw [show q_best σ q t k (r + 1) = r + 1 from by simp only [q_best]; split <;> omega]; exact lv_sub hl [3, 4, 5, 6, 1, 0] rfl)
              · have hl : lv_has ls 7 [(6, .int (nI 1)), (0, .ref m0), (1, .int (nI q)), (2, .int (nI t)), (3, .int (nI k)), (4, .int (nI (q_best σ q t k r - 1))), (5, .int (nI r))] := by rw [← eN_pos c_63]; exact hl
                obtain ⟨hy_1, hy_2, hy_3, hy_4⟩ := i_row (q_best σ q t k r - 1) (by omega)
                refine lv_aload_n hx hb dX3_joins_66 rfl (lv_at hl 1 rfl) ?_
                refine va_get (D := dD) (ci := 3) (v := .ref (a 2)) (C := RX3) (T := TX3) (N := 14) hx hb hts hinX3 hown hK hP 0 rfl rfl 5 (by decide) (hts (.fieldLink RX3 16 "FeatureStoreModel" "event" "[I") (by decide +kernel)) (fun _ h9 => h9) rfl dX3_joins_67 ?_
                refine lv_iload hx hb dX3_joins_70 (lv_at hl 6 rfl) ?_
                refine nv_iald (q0 := 3) (t0 := 0) (s_ev σ) hx hb hK hP rfl rfl (by omega) (by decide) dX3_joins_72 ?_
                refine lv_aload_n hx hb dX3_joins_73 rfl (lv_at hl 1 rfl) ?_
                refine va_get (D := dD) (ci := 3) (v := .ref (a 2)) (C := RX3) (T := TX3) (N := 14) hx hb hts hinX3 hown hK hP 0 rfl rfl 5 (by decide) (hts (.fieldLink RX3 16 "FeatureStoreModel" "event" "[I") (by decide +kernel)) (fun _ h9 => h9) rfl dX3_joins_74 ?_
                refine lv_iload hx hb dX3_joins_77 (lv_at hl 5 rfl) ?_
                refine nv_iald (q0 := 3) (t0 := 0) (s_ev σ) hx hb hK hP rfl rfl (by omega) (by decide) dX3_joins_79 ?_
                refine nv_lt (tgt := 88) hx hb dX3_joins_80 (by decide) (by omega) (by omega) (fun c_80 => ?_) (fun c_80 => ?_)
                · refine lv_iload hx hb dX3_joins_88 (lv_at hl 5 rfl) ?_
                  refine lv_istore (lv' := [(4, .int (nI (q_best σ q t k r - 1))), (6, .int (nI 1)), (0, .ref m0), (1, .int (nI q)), (2, .int (nI t)), (3, .int (nI k)), (5, .int (nI r))]) hx hb dX3_joins_90 hl (by decide) rfl (fun ls hl => ?_)
                  refine lv_iinc (v := nI (r + 1)) (lv' := [(5, .int (nI (r + 1))), (4, .int (nI (q_best σ q t k r - 1))), (6, .int (nI 1)), (0, .ref m0), (1, .int (nI q)), (2, .int (nI t)), (3, .int (nI k))]) hx hb dX3_joins_92 hl (k := 6) rfl (nv_inc _ 1) (by decide) rfl (fun ls hl => ?_)
                  refine lv_goto (tgt := 6) hx hb dX3_joins_95 (by decide) ?_
                  exact ih (r + 1) (by omega) (by omega) ls (by rw [show q_best σ q t k (r + 1) = q_best σ q t k r from by simp only [q_best]; split <;> omega, eN_pos c_63]; exact lv_sub hl [3, 4, 5, 6, 1, 0] rfl)
                · refine lv_iload hx hb dX3_joins_83 (lv_at hl 6 rfl) ?_
                  refine lv_goto (tgt := 90) hx hb dX3_joins_85 (by decide) ?_
                  refine lv_istore (lv' := [(4, .int (nI r)), (6, .int (nI 1)), (0, .ref m0), (1, .int (nI q)), (2, .int (nI t)), (3, .int (nI k)), (5, .int (nI r))]) hx hb dX3_joins_90 hl (by decide) rfl (fun ls hl => ?_)
                  refine lv_iinc (v := nI (r + 1)) (lv' := [(5, .int (nI (r + 1))), (4, .int (nI r)), (6, .int (nI 1)), (0, .ref m0), (1, .int (nI q)), (2, .int (nI t)), (3, .int (nI k))]) hx hb dX3_joins_92 hl (k := 6) rfl (nv_inc _ 1) (by decide) rfl (fun ls hl => ?_)
                  refine lv_goto (tgt := 6) hx hb dX3_joins_95 (by decide) ?_
                  exact ih (r + 1) (by omega) (by omega) ls (by rw [show q_best σ q t k (r + 1) = r + 1 from by simp only [q_best]; split <;> omega]; exact lv_sub hl [3, 4, 5, 6, 1, 0] rfl)
  exact hlp (s_n σ + 1) 0 (Nat.zero_le _) (by omega) ls (lv_sub hl [2, 3, 4, 5, 1, 0] rfl)

set_option maxHeartbeats 4000000 in
set_option maxRecDepth 100000 in
theorem c_X3_sums (l : Launch) (dD : va_G) (cI cR cS : ClassId) (lo : Nat) (m0 : Nat) (a : Nat → Nat) (th : Nat) (σ : St) (hI : sI σ) (q x y : Nat) (hq : q < 60) (hx_ : x ≤ 20000) (hy_ : y ≤ 30000) : Met l yX3_sums wsX3_sums ({ frames := 1, cells := 0, slots := 0, locals := 22 }) (ePc dD cI cR cS lo [.ref m0, .int (nI q), .int (nI x), .int (nI y)] (fun H => va_P dD vwCl (mW cI m0 a th σ) H)) (vp_Si (fun r => r = nI (q_sum σ q x y (s_n σ)))) 0 0 (fun _ => False) := by
  refine Met.ofW (cc := cX3_sums) (maxL := 6) (ret := (some .int)) (by decide) rfl ?_
  intro p e_ s m args below meth c s₁ B hml hv
  obtain ⟨rfl, hE, hP⟩ := hv
  have hx := B.exec
  have hb := B.bytes
  have hr := B.returns
  have hts := atoms_spec (ws := wsX3_sums) B.pre
  have hown : s.vm.findClass RX3 = some m.cls := findClass_of_methodNamed B.named
  have hlocks := B.notSynchronized
  have hK := hE.1.1
  have hinX3 : ∀ w ∈ u_ws RX3 TX3 14, w ∈ wsX3_sums := by decide +kernel
  obtain ⟨i_now, i_n, i_tk, i_k, i_lt, i_row, i_cp, i_srv⟩ := id hI
  have hl := lv_entry ([.ref m0, .int (nI q), .int (nI x), .int (nI y)]) (n := 6) (Nat.le_of_ble_eq_true rfl)
  rw [lg_entry_eq]
  generalize (lg_sl ([.ref m0, .int (nI q), .int (nI x), .int (nI y)]) ++ List.replicate (6 - (lg_sl ([.ref m0, .int (nI q), .int (nI x), .int (nI y)])).length) Slot.unset).toArray = ls at hl ⊢
  have hl : lv_has ls 6 [(0, .ref m0), (1, .int (nI q)), (2, .int (nI x)), (3, .int (nI y))] := hl
  refine lv_iconst (v := nI 0) hx hb dX3_sums_0 (by decide +kernel) ?_
  refine lv_istore (lv' := [(4, .int (nI 0)), (0, .ref m0), (1, .int (nI q)), (2, .int (nI x)), (3, .int (nI y))]) hx hb dX3_sums_1 hl (by decide) rfl (fun ls hl => ?_)
  refine lv_iconst (v := nI 0) hx hb dX3_sums_3 (by decide +kernel) ?_
  refine lv_istore (lv' := [(5, .int (nI 0)), (4, .int (nI 0)), (0, .ref m0), (1, .int (nI q)), (2, .int (nI x)), (3, .int (nI y))]) hx hb dX3_sums_4 hl (by decide) rfl (fun ls hl => ?_)
  have hlp : ∀ (d : Nat) (r : Nat), r ≤ s_n σ → s_n σ < r + d → ∀ (ls : Array Slot), lv_has ls 6 [(0, .ref m0), (1, .int (nI q)), (2, .int (nI x)), (3, .int (nI y)), (4, .int (nI (q_sum σ q x y r))), (5, .int (nI r))] → W p l e_ (headSpec wsX3_sums ({ frames := 1, cells := 0, slots := 0, locals := 22 })).room s m (([.ref m0, .int (nI q), .int (nI x), .int (nI y)] : List Value).toArray) below meth c s.heap [] 0 0 (MQ below (vp_Si (fun r => r = nI (q_sum σ q x y (s_n σ)))) ([.ref m0, .int (nI q), .int (nI x), .int (nI y)] : List Value).toArray s 0 0 (fun _ => False)) (F0 m 6 ls []) := by
    intro d
    induction d with
    | zero =>
      intro r hr1 hr2 ls hl
      exact absurd hr2 (by omega)
    | succ d ih =>
      intro r hr1 hr2 ls hl
      refine lv_iload hx hb dX3_sums_6 (lv_at hl 5 rfl) ?_
      refine lv_aload_n hx hb dX3_sums_8 rfl (lv_at hl 0 rfl) ?_
      refine va_get (D := dD) (ci := 3) (v := .int (nI (s_n σ))) (C := RX3) (T := TX3) (N := 14) hx hb hts hinX3 hown hK hP 0 rfl rfl 3 (by decide) (hts (.fieldLink RX3 53 "FeatureStoreModel" "rows" "I") (by decide +kernel)) (fun _ h9 => h9) rfl dX3_sums_9 ?_
      refine nv_ge (tgt := 63) hx hb dX3_sums_12 (by decide) (by omega) (by omega) (fun c_12 => ?_) (fun c_12 => ?_)
      · have hre : r = s_n σ := by omega
        subst hre
        have hl : lv_has ls 6 [(0, .ref m0), (1, .int (nI q)), (2, .int (nI x)), (3, .int (nI y)), (4, .int (nI (q_sum σ q x y (s_n σ))))] := lv_sub hl [0, 1, 2, 3, 4] rfl
        refine lv_iload hx hb dX3_sums_63 (lv_at hl 4 rfl) ?_
        exact W.iret (v := nI (q_sum σ q x y (s_n σ))) hx hb hr (fun u9 hu9 hW => ⟨nI (q_sum σ q x y (s_n σ)), rfl, rfl, hu9⟩) (fun q h => absurd h List.not_mem_nil) dX3_sums_65
      · have hz_r : r < s_n σ := by omega
        obtain ⟨hz_1, hz_2, hz_3, hz_4⟩ := i_row r hz_r
        refine lv_iload hx hb dX3_sums_15 (lv_at hl 4 rfl) ?_
        refine lv_aload_n hx hb dX3_sums_17 rfl (lv_at hl 0 rfl) ?_
        refine va_get (D := dD) (ci := 3) (v := .ref (a 1)) (C := RX3) (T := TX3) (N := 14) hx hb hts hinX3 hown hK hP 0 rfl rfl 4 (by decide) (hts (.fieldLink RX3 13 "FeatureStoreModel" "pair" "[I") (by decide +kernel)) (fun _ h9 => h9) rfl dX3_sums_18 ?_
        refine lv_iload hx hb dX3_sums_21 (lv_at hl 5 rfl) ?_
        refine nv_iald (q0 := 2) (t0 := 0) (s_pr σ) hx hb hK hP rfl rfl (by omega) (by decide) dX3_sums_23 ?_
        refine lv_iload_n hx hb dX3_sums_24 rfl (lv_at hl 1 rfl) ?_
        refine nv_ne (tgt := 53) hx hb dX3_sums_25 (by decide) (by omega) (by omega) (fun c_25 => ?_) (fun c_25 => ?_)
        · refine lv_iconst (v := nI 0) hx hb dX3_sums_53 (by decide +kernel) ?_
          refine nv_iadd hx hb dX3_sums_54 ?_
          refine lv_istore (lv' := [(4, .int (nI ((q_sum σ q x y r) + 0))), (0, .ref m0), (1, .int (nI q)), (2, .int (nI x)), (3, .int (nI y)), (5, .int (nI r))]) hx hb dX3_sums_55 hl (by decide) rfl (fun ls hl => ?_)
          refine lv_iinc (v := nI (r + 1)) (lv' := [(5, .int (nI (r + 1))), (4, .int (nI ((q_sum σ q x y r) + 0))), (0, .ref m0), (1, .int (nI q)), (2, .int (nI x)), (3, .int (nI y))]) hx hb dX3_sums_57 hl (k := 5) rfl (nv_inc _ 1) (by decide) rfl (fun ls hl => ?_)
          refine lv_goto (tgt := 6) hx hb dX3_sums_60 (by decide) ?_
          exact ih (r + 1) (by omega) (by omega) ls (by rw [show q_sum σ q x y (r + 1) = (q_sum σ q x y r) + 0 from by simp only [q_sum]; split <;> omega]; exact lv_sub hl [2, 3, 4, 5, 1, 0] rfl)
        · refine lv_aload_n hx hb dX3_sums_28 rfl (lv_at hl 0 rfl) ?_
          refine va_get (D := dD) (ci := 3) (v := .ref (a 2)) (C := RX3) (T := TX3) (N := 14) hx hb hts hinX3 hown hK hP 0 rfl rfl 5 (by decide) (hts (.fieldLink RX3 16 "FeatureStoreModel" "event" "[I") (by decide +kernel)) (fun _ h9 => h9) rfl dX3_sums_29 ?_
          refine lv_iload hx hb dX3_sums_32 (lv_at hl 5 rfl) ?_
          refine nv_iald (q0 := 3) (t0 := 0) (s_ev σ) hx hb hK hP rfl rfl (by omega) (by decide) dX3_sums_34 ?_
          refine lv_iload_n hx hb dX3_sums_35 rfl (lv_at hl 2 rfl) ?_
          refine lv_iload_n hx hb dX3_sums_36 rfl (lv_at hl 3 rfl) ?_
          refine vp_callSi (va_Run.run (va_runS (As := [.int (nI (s_ev σ r)), .int (nI x), .int (nI y)]) (rest := [.int (nI (q_sum σ q x y r))]) ⟨hx, hb, hml, hown, hts⟩ (c_X3_in l dD cI cR cS lo (nI (s_ev σ r)) (nI x) (nI y)) (va_cwS 3 hts gX3_sums_X3_in rfl rfl rfl (by decide +kernel) ⟨Nat.le_of_ble_eq_true rfl, Nat.le_of_ble_eq_true rfl⟩) (ePreS hE va_S.rf trivial) rfl rfl hl.1 rfl (lv_room (Nat.le_of_ble_eq_true rfl)) dX3_sums_37 ⟨Nat.le_of_ble_eq_true rfl, Nat.le_of_ble_eq_true rfl⟩)) (fun r_37 hr_37 => ?_)
          rcases hr_37 with ⟨rfl, hr_37⟩ | ⟨rfl, hr_37⟩
          · rw [nI_leI (by omega) (by omega), nI_leI (by omega) (by omega)] at hr_37
            refine nv_if_eq (tgt := 53) hx hb dX3_sums_40 (by decide) (by decide) (fun c_40 => absurd c_40 (by decide)) (fun c_40 => ?_)
            refine lv_aload_n hx hb dX3_sums_43 rfl (lv_at hl 0 rfl) ?_
            refine va_get (D := dD) (ci := 3) (v := .ref (a 4)) (C := RX3) (T := TX3) (N := 14) hx hb hts hinX3 hown hK hP 0 rfl rfl 7 (by decide) (hts (.fieldLink RX3 22 "FeatureStoreModel" "value" "[I") (by decide +kernel)) (fun _ h9 => h9) rfl dX3_sums_44 ?_
            refine lv_iload hx hb dX3_sums_47 (lv_at hl 5 rfl) ?_
            refine nv_iald (q0 := 5) (t0 := 0) (s_vl σ) hx hb hK hP rfl rfl (by omega) (by decide) dX3_sums_49 ?_
            refine lv_goto (tgt := 54) hx hb dX3_sums_50 (by decide) ?_
            refine nv_iadd hx hb dX3_sums_54 ?_
            refine lv_istore (lv' := [(4, .int (nI ((q_sum σ q x y r) + (s_vl σ r)))), (0, .ref m0), (1, .int (nI q)), (2, .int (nI x)), (3, .int (nI y)), (5, .int (nI r))]) hx hb dX3_sums_55 hl (by decide) rfl (fun ls hl => ?_)
            refine lv_iinc (v := nI (r + 1)) (lv' := [(5, .int (nI (r + 1))), (4, .int (nI ((q_sum σ q x y r) + (s_vl σ r)))), (0, .ref m0), (1, .int (nI q)), (2, .int (nI x)), (3, .int (nI y))]) hx hb dX3_sums_57 hl (k := 5) rfl (nv_inc _ 1) (by decide) rfl (fun ls hl => ?_)
            refine lv_goto (tgt := 6) hx hb dX3_sums_60 (by decide) ?_
            exact ih (r + 1) (by omega) (by omega) ls (by rw [show q_sum σ q x y (r + 1) = (q_sum σ q x y r) + (s_vl σ r) from by simp only [q_sum]; split <;> omega]; exact lv_sub hl [2, 3, 4, 5, 1, 0] rfl)
          · rw [nI_leI (by omega) (by omega), nI_leI (by omega) (by omega)] at hr_37
            refine nv_if_eq (tgt := 53) hx hb dX3_sums_40 (by decide) (by decide) (fun c_40 => ?_) (fun c_40 => absurd c_40 (by decide))
            refine lv_iconst (v := nI 0) hx hb dX3_sums_53 (by decide +kernel) ?_
            refine nv_iadd hx hb dX3_sums_54 ?_
            refine lv_istore (lv' := [(4, .int (nI ((q_sum σ q x y r) + 0))), (0, .ref m0), (1, .int (nI q)), (2, .int (nI x)), (3, .int (nI y)), (5, .int (nI r))]) hx hb dX3_sums_55 hl (by decide) rfl (fun ls hl => ?_)
            refine lv_iinc (v := nI (r + 1)) (lv' := [(5, .int (nI (r + 1))), (4, .int (nI ((q_sum σ q x y r) + 0))), (0, .ref m0), (1, .int (nI q)), (2, .int (nI x)), (3, .int (nI y))]) hx hb dX3_sums_57 hl (k := 5) rfl (nv_inc _ 1) (by decide) rfl (fun ls hl => ?_)
            refine lv_goto (tgt := 6) hx hb dX3_sums_60 (by decide) ?_
            exact ih (r + 1) (by omega) (by omega) ls (by rw [show q_sum σ q x y (r + 1) = (q_sum σ q x y r) + 0 from by simp only [q_sum]; split <;> omega]; exact lv_sub hl [2, 3, 4, 5, 1, 0] rfl)
  exact hlp (s_n σ + 1) 0 (Nat.zero_le _) (by omega) ls (lv_sub hl [2, 3, 4, 5, 1, 0] rfl)

theorem q_fst_01 (σ : St) (len row : Nat) : ∀ r : Nat, q_fst σ len row r = 0 ∨ q_fst σ len row r = 1
  | 0 => Or.inr rfl
  | r + 1 => by
    simp only [q_fst]
    split
    · exact Or.inr rfl
    · exact Or.inl rfl
theorem nz_01 {v : Nat} (h : v = 0 ∨ v = 1) : narrow .boolean (.int (nI v)) = .int (nI v) := by
  rcases h with rfl | rfl <;> decide +kernel

set_option maxHeartbeats 4000000 in
set_option maxRecDepth 100000 in
theorem c_X3_isFirst (l : Launch) (dD : va_G) (cI cR cS : ClassId) (lo : Nat) (m0 : Nat) (a : Nat → Nat) (th : Nat) (σ : St) (hI : sI σ) (row len : Nat) (hrow : row < s_n σ) (hl1 : 1 ≤ len) (hl2 : len ≤ 10000) : Met l yX3_isFirst wsX3_isFirst ({ frames := 0, cells := 0, slots := 0, locals := 0 }) (ePc dD cI cR cS lo [.ref m0, .int (nI row), .int (nI len)] (fun H => va_P dD vwCl (mW cI m0 a th σ) H)) (vp_Si (fun r => r = nI (q_fst σ len row row))) 0 0 (fun _ => False) := by
  refine Met.ofW (cc := cX3_isFirst) (maxL := 5) (ret := (some .boolean)) (by decide) rfl ?_
  intro p e_ s m args below meth c s₁ B hml hv
  obtain ⟨rfl, hE, hP⟩ := hv
  have hx := B.exec
  have hb := B.bytes
  have hr := B.returns
  have hts := atoms_spec (ws := wsX3_isFirst) B.pre
  have hown : s.vm.findClass RX3 = some m.cls := findClass_of_methodNamed B.named
  have hlocks := B.notSynchronized
  have hK := hE.1.1
  have hinX3 : ∀ w ∈ u_ws RX3 TX3 14, w ∈ wsX3_isFirst := by decide +kernel
  obtain ⟨i_now, i_n, i_tk, i_k, i_lt, i_row, i_cp, i_srv⟩ := id hI
  obtain ⟨hw_1, hw_2, hw_3, hw_4⟩ := i_row row hrow
  have hl := lv_entry ([.ref m0, .int (nI row), .int (nI len)]) (n := 5) (Nat.le_of_ble_eq_true rfl)
  rw [lg_entry_eq]
  generalize (lg_sl ([.ref m0, .int (nI row), .int (nI len)]) ++ List.replicate (5 - (lg_sl ([.ref m0, .int (nI row), .int (nI len)])).length) Slot.unset).toArray = ls at hl ⊢
  have hl : lv_has ls 5 [(0, .ref m0), (1, .int (nI row)), (2, .int (nI len))] := hl
  refine lv_iconst (v := nI 1) hx hb dX3_isFirst_0 (by decide +kernel) ?_
  refine lv_istore_n (lv' := [(3, .int (nI 1)), (0, .ref m0), (1, .int (nI row)), (2, .int (nI len))]) hx hb dX3_isFirst_1 rfl hl (by decide) rfl (fun ls hl => ?_)
  refine lv_iconst (v := nI 0) hx hb dX3_isFirst_2 (by decide +kernel) ?_
  refine lv_istore (lv' := [(4, .int (nI 0)), (3, .int (nI 1)), (0, .ref m0), (1, .int (nI row)), (2, .int (nI len))]) hx hb dX3_isFirst_3 hl (by decide) rfl (fun ls hl => ?_)
  have hlp : ∀ (d : Nat) (r : Nat), r ≤ row → row < r + d → ∀ (ls : Array Slot), lv_has ls 5 [(0, .ref m0), (1, .int (nI row)), (2, .int (nI len)), (3, .int (nI (q_fst σ len row r))), (4, .int (nI r))] → W p l e_ (headSpec wsX3_isFirst ({ frames := 0, cells := 0, slots := 0, locals := 0 })).room s m (([.ref m0, .int (nI row), .int (nI len)] : List Value).toArray) below meth c s.heap [] 0 0 (MQ below (vp_Si (fun r => r = nI (q_fst σ len row row))) ([.ref m0, .int (nI row), .int (nI len)] : List Value).toArray s 0 0 (fun _ => False)) (F0 m 5 ls []) := by
    intro d
    induction d with
    | zero =>
      intro r hr1 hr2 ls hl
      exact absurd hr2 (by omega)
    | succ d ih =>
      intro r hr1 hr2 ls hl
      have hz_01 := q_fst_01 σ len row r
      refine lv_iload hx hb dX3_isFirst_5 (lv_at hl 4 rfl) ?_
      refine lv_iload_n hx hb dX3_isFirst_7 rfl (lv_at hl 1 rfl) ?_
      refine nv_ge (tgt := 63) hx hb dX3_isFirst_8 (by decide) (by omega) (by omega) (fun c_8 => ?_) (fun c_8 => ?_)
      · have hre : r = row := by omega
        subst hre
        have hl : lv_has ls 5 [(0, .ref m0), (1, .int (nI r)), (2, .int (nI len)), (3, .int (nI (q_fst σ len r r)))] := lv_sub hl [0, 1, 2, 3] rfl
        refine lv_iload_n hx hb dX3_isFirst_63 rfl (lv_at hl 3 rfl) ?_
        exact W.zret (v := nI (q_fst σ len r r)) hx hb hr (nz_01 (q_fst_01 σ len r r)) (fun u9 hu9 hW => ⟨nI (q_fst σ len r r), rfl, rfl, hu9⟩) (fun q h => absurd h List.not_mem_nil) dX3_isFirst_64
      · have hz_r : r < s_n σ := by omega
        obtain ⟨hz_1, hz_2, hz_3, hz_4⟩ := i_row r hz_r
        have hz_d1 : s_ev σ r / len ≤ s_ev σ r := Nat.div_le_self _ _
        have hz_d2 : s_ev σ row / len ≤ s_ev σ row := Nat.div_le_self _ _
        refine lv_iload_n hx hb dX3_isFirst_11 rfl (lv_at hl 3 rfl) ?_
        refine nv_if_eq (tgt := 55) hx hb dX3_isFirst_12 (by decide) (by omega) (fun c_12 => ?_) (fun c_12 => ?_)
        · refine lv_iconst (v := nI 0) hx hb dX3_isFirst_55 (by decide +kernel) ?_
          refine lv_istore_n (lv' := [(3, .int (nI 0)), (0, .ref m0), (1, .int (nI row)), (2, .int (nI len)), (4, .int (nI r))]) hx hb dX3_isFirst_56 rfl hl (by decide) rfl (fun ls hl => ?_)
          refine lv_iinc (v := nI (r + 1)) (lv' := [(4, .int (nI (r + 1))), (3, .int (nI 0)), (0, .ref m0), (1, .int (nI row)), (2, .int (nI len))]) hx hb dX3_isFirst_57 hl (k := 4) rfl (nv_inc _ 1) (by decide) rfl (fun ls hl => ?_)
          refine lv_goto (tgt := 5) hx hb dX3_isFirst_60 (by decide) ?_
          exact ih (r + 1) (by omega) (by omega) ls (by rw [show q_fst σ len row (r + 1) = 0 from by simp only [q_fst]; split <;> omega]; exact lv_sub hl [2, 3, 4, 1, 0] rfl)
        · refine lv_aload_n hx hb dX3_isFirst_15 rfl (lv_at hl 0 rfl) ?_
          refine va_get (D := dD) (ci := 3) (v := .ref (a 1)) (C := RX3) (T := TX3) (N := 14) hx hb hts hinX3 hown hK hP 0 rfl rfl 4 (by decide) (hts (.fieldLink RX3 13 "FeatureStoreModel" "pair" "[I") (by decide +kernel)) (fun _ h9 => h9) rfl dX3_isFirst_16 ?_
          refine lv_iload hx hb dX3_isFirst_19 (lv_at hl 4 rfl) ?_
          refine nv_iald (q0 := 2) (t0 := 0) (s_pr σ) hx hb hK hP rfl rfl (by omega) (by decide) dX3_isFirst_21 ?_
          refine lv_aload_n hx hb dX3_isFirst_22 rfl (lv_at hl 0 rfl) ?_
          refine va_get (D := dD) (ci := 3) (v := .ref (a 1)) (C := RX3) (T := TX3) (N := 14) hx hb hts hinX3 hown hK hP 0 rfl rfl 4 (by decide) (hts (.fieldLink RX3 13 "FeatureStoreModel" "pair" "[I") (by decide +kernel)) (fun _ h9 => h9) rfl dX3_isFirst_23 ?_
          refine lv_iload_n hx hb dX3_isFirst_26 rfl (lv_at hl 1 rfl) ?_
          refine nv_iald (q0 := 2) (t0 := 0) (s_pr σ) hx hb hK hP rfl rfl (by omega) (by decide) dX3_isFirst_27 ?_
          refine nv_ne (tgt := 51) hx hb dX3_isFirst_28 (by decide) (by omega) (by omega) (fun c_28 => ?_) (fun c_28 => ?_)
          · refine lv_iconst (v := nI 1) hx hb dX3_isFirst_51 (by decide +kernel) ?_
            refine lv_goto (tgt := 56) hx hb dX3_isFirst_52 (by decide) ?_
            refine lv_istore_n (lv' := [(3, .int (nI 1)), (0, .ref m0), (1, .int (nI row)), (2, .int (nI len)), (4, .int (nI r))]) hx hb dX3_isFirst_56 rfl hl (by decide) rfl (fun ls hl => ?_)
            refine lv_iinc (v := nI (r + 1)) (lv' := [(4, .int (nI (r + 1))), (3, .int (nI 1)), (0, .ref m0), (1, .int (nI row)), (2, .int (nI len))]) hx hb dX3_isFirst_57 hl (k := 4) rfl (nv_inc _ 1) (by decide) rfl (fun ls hl => ?_)
            refine lv_goto (tgt := 5) hx hb dX3_isFirst_60 (by decide) ?_
            exact ih (r + 1) (by omega) (by omega) ls (by rw [show q_fst σ len row (r + 1) = 1 from by simp only [q_fst]; split <;> omega]; exact lv_sub hl [2, 3, 4, 1, 0] rfl)
          · refine lv_aload_n hx hb dX3_isFirst_31 rfl (lv_at hl 0 rfl) ?_
            refine va_get (D := dD) (ci := 3) (v := .ref (a 2)) (C := RX3) (T := TX3) (N := 14) hx hb hts hinX3 hown hK hP 0 rfl rfl 5 (by decide) (hts (.fieldLink RX3 16 "FeatureStoreModel" "event" "[I") (by decide +kernel)) (fun _ h9 => h9) rfl dX3_isFirst_32 ?_
            refine lv_iload hx hb dX3_isFirst_35 (lv_at hl 4 rfl) ?_
            refine nv_iald (q0 := 3) (t0 := 0) (s_ev σ) hx hb hK hP rfl rfl (by omega) (by decide) dX3_isFirst_37 ?_
            refine lv_iload_n hx hb dX3_isFirst_38 rfl (lv_at hl 2 rfl) ?_
            refine nv_idiv hx hb dX3_isFirst_39 (by omega) (by omega) (by omega) ?_
            refine lv_aload_n hx hb dX3_isFirst_40 rfl (lv_at hl 0 rfl) ?_
            refine va_get (D := dD) (ci := 3) (v := .ref (a 2)) (C := RX3) (T := TX3) (N := 14) hx hb hts hinX3 hown hK hP 0 rfl rfl 5 (by decide) (hts (.fieldLink RX3 16 "FeatureStoreModel" "event" "[I") (by decide +kernel)) (fun _ h9 => h9) rfl dX3_isFirst_41 ?_
            refine lv_iload_n hx hb dX3_isFirst_44 rfl (lv_at hl 1 rfl) ?_
            refine nv_iald (q0 := 3) (t0 := 0) (s_ev σ) hx hb hK hP rfl rfl (by omega) (by decide) dX3_isFirst_45 ?_
            refine lv_iload_n hx hb dX3_isFirst_46 rfl (lv_at hl 2 rfl) ?_
            refine nv_idiv hx hb dX3_isFirst_47 (by omega) (by omega) (by omega) ?_
            refine nv_eq (tgt := 55) hx hb dX3_isFirst_48 (by decide) (by omega) (by omega) (fun c_48 => ?_) (fun c_48 => ?_)
            · refine lv_iconst (v := nI 0) hx hb dX3_isFirst_55 (by decide +kernel) ?_
              refine lv_istore_n (lv' := [(3, .int (nI 0)), (0, .ref m0), (1, .int (nI row)), (2, .int (nI len)), (4, .int (nI r))]) hx hb dX3_isFirst_56 rfl hl (by decide) rfl (fun ls hl => ?_)
              refine lv_iinc (v := nI (r + 1)) (lv' := [(4, .int (nI (r + 1))), (3, .int (nI 0)), (0, .ref m0), (1, .int (nI row)), (2, .int (nI len))]) hx hb dX3_isFirst_57 hl (k := 4) rfl (nv_inc _ 1) (by decide) rfl (fun ls hl => ?_)
              refine lv_goto (tgt := 5) hx hb dX3_isFirst_60 (by decide) ?_
              exact ih (r + 1) (by omega) (by omega) ls (by rw [show q_fst σ len row (r + 1) = 0 from by simp only [q_fst]; split <;> omega]; exact lv_sub hl [2, 3, 4, 1, 0] rfl)
            · refine lv_iconst (v := nI 1) hx hb dX3_isFirst_51 (by decide +kernel) ?_
              refine lv_goto (tgt := 56) hx hb dX3_isFirst_52 (by decide) ?_
              refine lv_istore_n (lv' := [(3, .int (nI 1)), (0, .ref m0), (1, .int (nI row)), (2, .int (nI len)), (4, .int (nI r))]) hx hb dX3_isFirst_56 rfl hl (by decide) rfl (fun ls hl => ?_)
              refine lv_iinc (v := nI (r + 1)) (lv' := [(4, .int (nI (r + 1))), (3, .int (nI 1)), (0, .ref m0), (1, .int (nI row)), (2, .int (nI len))]) hx hb dX3_isFirst_57 hl (k := 4) rfl (nv_inc _ 1) (by decide) rfl (fun ls hl => ?_)
              refine lv_goto (tgt := 5) hx hb dX3_isFirst_60 (by decide) ?_
              exact ih (r + 1) (by omega) (by omega) ls (by rw [show q_fst σ len row (r + 1) = 1 from by simp only [q_fst]; split <;> omega]; exact lv_sub hl [2, 3, 4, 1, 0] rfl)
  exact hlp (row + 1) 0 (Nat.zero_le _) (by omega) ls (lv_sub hl [2, 3, 4, 1, 0] rfl)

theorem q_join_le (σ : St) (q t k : Nat) : q_join σ q t k ≤ s_n σ := by
  have h := q_best_le σ q t k (s_n σ)
  simp only [q_join, q_fr]
  split
  · omega
  · split <;> omega

set_option maxHeartbeats 4000000 in
set_option maxRecDepth 100000 in
theorem c_X3_isRight (l : Launch) (dD : va_G) (cI cR cS : ClassId) (lo : Nat) (m0 : Nat) (a : Nat → Nat) (th : Nat) (σ : St) (hI : sI σ) (i : Nat) (hi : i < s_k σ) : Met l yX3_isRight wsX3_isRight ({ frames := 2, cells := 0, slots := 0, locals := 49 }) (ePc dD cI cR cS lo [.ref m0, .int (nI i)] (fun H => va_P dD vwCl (mW cI m0 a th σ) H)) (vp_Si (fun r => (r = nI 1 ∧ s_sv σ i = q_join σ (s_sp σ i) (s_sa σ i) (s_sa σ i)) ∨ (r = nI 0 ∧ ¬ s_sv σ i = q_join σ (s_sp σ i) (s_sa σ i) (s_sa σ i)))) 0 0 (fun _ => False) := by
  refine Met.ofW (cc := cX3_isRight) (maxL := 2) (ret := (some .boolean)) (by decide) rfl ?_
  intro p e_ s m args below meth c s₁ B hml hv
  obtain ⟨rfl, hE, hP⟩ := hv
  have hx := B.exec
  have hb := B.bytes
  have hr := B.returns
  have hts := atoms_spec (ws := wsX3_isRight) B.pre
  have hown : s.vm.findClass RX3 = some m.cls := findClass_of_methodNamed B.named
  have hlocks := B.notSynchronized
  have hK := hE.1.1
  have hinX3 : ∀ w ∈ u_ws RX3 TX3 14, w ∈ wsX3_isRight := by decide +kernel
  obtain ⟨i_now, i_n, i_tk, i_k, i_lt, i_row, i_cp, i_srv⟩ := id hI
  obtain ⟨hz_1, hz_2, hz_3⟩ := i_srv i hi
  have hz_j := q_join_le σ (s_sp σ i) (s_sa σ i) (s_sa σ i)
  have hl := lv_entry ([.ref m0, .int (nI i)]) (n := 2) (Nat.le_of_ble_eq_true rfl)
  rw [lg_entry_eq]
  generalize (lg_sl ([.ref m0, .int (nI i)]) ++ List.replicate (2 - (lg_sl ([.ref m0, .int (nI i)])).length) Slot.unset).toArray = ls at hl ⊢
  have hl : lv_has ls 2 [(0, .ref m0), (1, .int (nI i))] := hl
  refine lv_aload_n hx hb dX3_isRight_0 rfl (lv_at hl 0 rfl) ?_
  refine va_get (D := dD) (ci := 3) (v := .ref (a 8)) (C := RX3) (T := TX3) (N := 14) hx hb hts hinX3 hown hK hP 0 rfl rfl 13 (by decide) (hts (.fieldLink RX3 34 "FeatureStoreModel" "served" "[I") (by decide +kernel)) (fun _ h9 => h9) rfl dX3_isRight_1 ?_
  refine lv_iload_n hx hb dX3_isRight_4 rfl (lv_at hl 1 rfl) ?_
  refine nv_eald (q0 := 9) (t0 := 0) (s_sv σ) hx hb hK hP rfl rfl (by omega) (by decide) dX3_isRight_5 ?_
  refine lv_aload_n hx hb dX3_isRight_6 rfl (lv_at hl 0 rfl) ?_
  refine lv_aload_n hx hb dX3_isRight_7 rfl (lv_at hl 0 rfl) ?_
  refine va_get (D := dD) (ci := 3) (v := .ref (a 6)) (C := RX3) (T := TX3) (N := 14) hx hb hts hinX3 hown hK hP 0 rfl rfl 11 (by decide) (hts (.fieldLink RX3 28 "FeatureStoreModel" "servedPair" "[I") (by decide +kernel)) (fun _ h9 => h9) rfl dX3_isRight_8 ?_
  refine lv_iload_n hx hb dX3_isRight_11 rfl (lv_at hl 1 rfl) ?_
  refine nv_iald (q0 := 7) (t0 := 0) (s_sp σ) hx hb hK hP rfl rfl (by omega) (by decide) dX3_isRight_12 ?_
  refine lv_aload_n hx hb dX3_isRight_13 rfl (lv_at hl 0 rfl) ?_
  refine va_get (D := dD) (ci := 3) (v := .ref (a 7)) (C := RX3) (T := TX3) (N := 14) hx hb hts hinX3 hown hK hP 0 rfl rfl 12 (by decide) (hts (.fieldLink RX3 31 "FeatureStoreModel" "servedAt" "[I") (by decide +kernel)) (fun _ h9 => h9) rfl dX3_isRight_14 ?_
  refine lv_iload_n hx hb dX3_isRight_17 rfl (lv_at hl 1 rfl) ?_
  refine nv_iald (q0 := 8) (t0 := 0) (s_sa σ) hx hb hK hP rfl rfl (by omega) (by decide) dX3_isRight_18 ?_
  refine lv_aload_n hx hb dX3_isRight_19 rfl (lv_at hl 0 rfl) ?_
  refine va_get (D := dD) (ci := 3) (v := .ref (a 7)) (C := RX3) (T := TX3) (N := 14) hx hb hts hinX3 hown hK hP 0 rfl rfl 12 (by decide) (hts (.fieldLink RX3 31 "FeatureStoreModel" "servedAt" "[I") (by decide +kernel)) (fun _ h9 => h9) rfl dX3_isRight_20 ?_
  refine lv_iload_n hx hb dX3_isRight_23 rfl (lv_at hl 1 rfl) ?_
  refine nv_iald (q0 := 8) (t0 := 0) (s_sa σ) hx hb hK hP rfl rfl (by omega) (by decide) dX3_isRight_24 ?_
  refine vp_callSi (va_Run.run (va_runV (As := [.int (nI (s_sp σ i)), .int (nI (s_sa σ i)), .int (nI (s_sa σ i))]) (rest := [.int (eN (s_sv σ i))]) ⟨hx, hb, hml, hown, hts⟩ (c_X3_joins l dD cI cR cS lo m0 a th σ hI (s_sp σ i) (s_sa σ i) (s_sa σ i) hz_1 (by omega) (by omega)) (cwV 3 hts gX3_isRight_X3_joins rfl rfl rfl (by decide +kernel) ⟨Nat.le_of_ble_eq_true rfl, Nat.le_of_ble_eq_true rfl⟩) (ePreV hE va_S.rf hP (k := 0) rfl rfl hP) rfl rfl hl.1 rfl (lv_room (Nat.le_of_ble_eq_true rfl)) dX3_isRight_25 ⟨Nat.le_of_ble_eq_true rfl, Nat.le_of_ble_eq_true rfl⟩)) (fun r_25 hr_25 => ?_)
  subst hr_25
  refine nv_neN (tgt := 35) hx hb dX3_isRight_28 (by decide) (by omega) (by omega) (fun c_28 => ?_) (fun c_28 => ?_)
  · refine lv_iconst (v := nI 0) hx hb dX3_isRight_35 (by decide +kernel) ?_
    exact W.zret (v := nI 0) hx hb hr rfl (fun u9 hu9 hW => ⟨nI 0, rfl, Or.inr ⟨rfl, c_28⟩, hu9⟩) (fun q h => absurd h List.not_mem_nil) dX3_isRight_36
  · refine lv_iconst (v := nI 1) hx hb dX3_isRight_31 (by decide +kernel) ?_
    refine lv_goto (tgt := 36) hx hb dX3_isRight_32 (by decide) ?_
    exact W.zret (v := nI 1) hx hb hr rfl (fun u9 hu9 hW => ⟨nI 1, rfl, Or.inl ⟨rfl, c_28⟩, hu9⟩) (fun q h => absurd h List.not_mem_nil) dX3_isRight_36
