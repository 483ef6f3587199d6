/-! the class: rows, servings, joins (laid by wip/whole/gen/x2ro2.py) -/
section NVK
variable {p : Program} {l : Launch} {e : Env} {R : Room} {s : State} {m : MethodId} {args : Array Value} {below : List Frame} {meth : Method} {c : Code} {H : Heap} {locs : List Loc} {cells slots : Nat} {Q : State → Prop} {pc : Nat} {ls : Array Slot} {rest st0 : List Value} {a : Array Value} {cc : ByteArray}
theorem nx_callEr {post : Nat → Prop} (hr : CallRun p l e R s m args below meth c H locs cells slots 0 0 (F0 m pc ls st0) rest (eSr post a) (fun _ => False))
    (kk : ∀ r : Nat, post r → W p l e R s m args below meth c H locs cells slots Q (F0 m (pc + 3) ls (.ref r :: rest))) : W p l e R s m args below meth c H locs cells slots Q (F0 m pc ls st0) := by
  intro T hT X
  obtain ⟨v, st₀, t, T', L, h0, X', hL, e1, ⟨r, hv, hp, hh⟩, st⟩ := hr T hT X
  cases hv
  obtain ⟨t2, a1, b1⟩ := kk r hp T' (by rw [e1, hh, h0]) (Stand.forget X' (fun q h => (hL q h).elim))
  exact ⟨t2, st t2 a1, b1⟩
theorem nv_if_lt {x : Nat} {off : Int} {tgt : Nat} (hx : p.tables.exec = Jvm.exec) (hb : c.code = cc) (hdg : decode cc pc = .ok (.ifCond .lt off, 3)) (ht : (pc : Int) + off = (tgt : Int)) (h1 : x < 2 ^ 31)
    (kt : x < 0 → W p l e R s m args below meth c H locs cells slots Q (F0 m tgt ls rest)) (kf : ¬ x < 0 → W p l e R s m args below meth c H locs cells slots Q (F0 m (pc + 3) ls rest)) : W p l e R s m args below meth c H locs cells slots Q (F0 m pc ls (.int (nI x) :: rest)) := lv_if_lt hx hb hdg ht (fun h => kt ((nI_ltI h1 (b := 0) (by decide)).mp h)) (fun h => kf (fun z => h ((nI_ltI h1 (b := 0) (by decide)).mpr z)))
end NVK

set_option maxHeartbeats 4000000 in
set_option maxRecDepth 100000 in
theorem c_X2_rowOrNull (l : Launch) (dD : va_G) (cI cR cS : ClassId) (lo : Nat) (x0 : Nat) (b ra sb hd ol : Nat → Nat) (σ : St) (hI : sI σ) (x : Int32) : Met l yX2_rowOrNull wsX2_rowOrNull ({ frames := 0, cells := 0, slots := 0, locals := 0 }) (ePc dD cI cR cS lo [.ref x0, .int x] (fun H => va_P dD vwCl (xW cI cR cS x0 b ra sb hd ol σ) H)) (va_Sq (fun r => (ri x (s_n σ) ∧ r = some (ra (cl x))) ∨ (¬ ri x (s_n σ) ∧ r = none))) 0 0 (fun _ => False) := by
  refine Met.ofW (cc := cX2_rowOrNull) (maxL := 2) (ret := (some (.object "FeatureStore$Row"))) (by decide) rfl ?_
  intro p e_ s m args below meth c s₁ B hml hv
  obtain ⟨rfl, hE, hP⟩ := hv
  have hx := B.exec
  have hb := B.bytes
  have hr := B.returns
  have hts := atoms_spec (ws := wsX2_rowOrNull) B.pre
  have hown : s.vm.findClass RX2 = some m.cls := findClass_of_methodNamed B.named
  have hlocks := B.notSynchronized
  have hK := hE.1.1
  have hinX2 : ∀ w ∈ u_ws RX2 TX2 9, w ∈ wsX2_rowOrNull := by decide +kernel
  obtain ⟨i_now, i_n, i_tk, i_k, i_lt, i_row, i_cp, i_srv⟩ := id hI
  have hl := lv_entry ([.ref x0, .int x]) (n := 2) (Nat.le_of_ble_eq_true rfl)
  rw [lg_entry_eq]
  generalize (lg_sl ([.ref x0, .int x]) ++ List.replicate (2 - (lg_sl ([.ref x0, .int x])).length) Slot.unset).toArray = ls at hl ⊢
  have hl : lv_has ls 2 [(0, .ref x0), (1, .int x)] := hl
  refine lv_iload_n hx hb dX2_rowOrNull_0 rfl (lv_at hl 1 rfl) ?_
  refine lv_if_lt (tgt := 21) hx hb dX2_rowOrNull_1 (by decide) (fun c_1 => ?_) (fun c_1 => ?_)
  · refine lv_null hx hb dX2_rowOrNull_21 ?_
    exact W.aret (v := va_rf none) hx hb hr (Or.inl ⟨_, rfl⟩) (va_rf_or _) (fun u9 hu9 hW => ⟨none, rfl, Or.inr ⟨fun h => absurd c_1 (Int32.not_lt.mpr h.1), rfl⟩, hu9⟩) (fun q h => absurd h List.not_mem_nil) dX2_rowOrNull_22
  · refine lv_iload_n hx hb dX2_rowOrNull_4 rfl (lv_at hl 1 rfl) ?_
    refine lv_aload_n hx hb dX2_rowOrNull_5 rfl (lv_at hl 0 rfl) ?_
    refine va_get (D := dD) (ci := 2) (v := .int (nI (s_n σ))) (C := RX2) (T := TX2) (N := 9) hx hb hts hinX2 hown hK hP 0 rfl rfl 3 (by decide) (hts (.fieldLink RX2 44 "FeatureStore" "rowCount" "I") (by decide +kernel)) (fun _ h9 => h9) rfl dX2_rowOrNull_6 ?_
    refine lv_icmp_ge (tgt := 21) hx hb dX2_rowOrNull_9 (by decide) (fun c_9 => ?_) (fun c_9 => ?_)
    · refine lv_null hx hb dX2_rowOrNull_21 ?_
      exact W.aret (v := va_rf none) hx hb hr (Or.inl ⟨_, rfl⟩) (va_rf_or _) (fun u9 hu9 hW => ⟨none, rfl, Or.inr ⟨fun h => absurd c_9 (Int32.not_le.mpr h.2), rfl⟩, hu9⟩) (fun q h => absurd h List.not_mem_nil) dX2_rowOrNull_22
    · have hri : ri x (s_n σ) := ⟨Int32.not_lt.mp c_1, Int32.not_le.mp c_9⟩
      obtain ⟨i, hi_, rfl⟩ := ri_of (by omega) hri
      refine lv_aload_n hx hb dX2_rowOrNull_12 rfl (lv_at hl 0 rfl) ?_
      refine va_get (D := dD) (ci := 2) (v := .ref (b 1)) (C := RX2) (T := TX2) (N := 9) hx hb hts hinX2 hown hK hP 0 rfl rfl 2 (by decide) (hts (.fieldLink RX2 15 "FeatureStore" "rows" "[LFeatureStore$Row;") (by decide +kernel)) (fun _ h9 => h9) rfl dX2_rowOrNull_13 ?_
      refine lv_iload_n hx hb dX2_rowOrNull_16 rfl (lv_at hl 1 rfl) ?_
      refine nq_aaldP (q0 := 2) (t0 := 1) (ra) hx hb hK hP rfl rfl (by omega) (by decide) (by omega) dX2_rowOrNull_17 ?_
      refine lv_goto (tgt := 22) hx hb dX2_rowOrNull_18 (by decide) ?_
      exact W.aret (v := va_rf (some (ra i))) hx hb hr (Or.inl ⟨_, rfl⟩) (va_rf_or _) (fun u9 hu9 hW => ⟨some (ra i), rfl, Or.inl ⟨hri, by rw [cl_nI (by omega)]⟩, hu9⟩) (fun q h => absurd h List.not_mem_nil) dX2_rowOrNull_22

set_option maxHeartbeats 4000000 in
set_option maxRecDepth 100000 in
theorem c_X2_requireRow (l : Launch) (dD : va_G) (cI cR cS : ClassId) (lo : Nat) (hfl : l.stackTraces = false) (x0 : Nat) (b ra sb hd ol : Nat → Nat) (σ : St) (hI : sI σ) (x : Int32) : vx_Met l yX2_requireRow wsX2_requireRow ({ frames := 6, cells := 1, slots := 6, locals := 82 }) (ePc dD cI cR cS lo [.ref x0, .int x] (fun H => va_P dD vwCl (xW cI cR cS x0 b ra sb hd ol σ) H)) (eSr (fun q => ri x (s_n σ) ∧ q = ra (cl x))) (eX (fun E => E = nIOB ∧ ¬ ri x (s_n σ))) 1 6 (fun _ => False) := by
  refine vx_ofW (cc := cX2_requireRow) (maxL := 3) (ret := (some (.object "FeatureStore$Row"))) (by decide) rfl ?_
  intro p e_ s m args below meth c s₁ B hml hnt hv
  obtain ⟨rfl, hE, hP⟩ := hv
  have hx := B.exec
  have hb := B.bytes
  have hr := B.returns
  have hts := atoms_spec (ws := wsX2_requireRow) B.pre
  have hown : s.vm.findClass RX2 = some m.cls := findClass_of_methodNamed B.named
  have hlocks := B.notSynchronized
  have hK := hE.1.1
  obtain ⟨i_now, i_n, i_tk, i_k, i_lt, i_row, i_cp, i_srv⟩ := id hI
  have hl := lv_entry ([.ref x0, .int x]) (n := 3) (Nat.le_of_ble_eq_true rfl)
  rw [lg_entry_eq]
  generalize (lg_sl ([.ref x0, .int x]) ++ List.replicate (3 - (lg_sl ([.ref x0, .int x])).length) Slot.unset).toArray = ls at hl ⊢
  have hl : lv_has ls 3 [(0, .ref x0), (1, .int x)] := hl
  refine lv_aload_n hx hb dX2_requireRow_0 rfl (lv_at hl 0 rfl) ?_
  refine lv_iload_n hx hb dX2_requireRow_1 rfl (lv_at hl 1 rfl) ?_
  refine nx_callRr (va_Run.run (va_runV (As := [.int x]) (rest := []) ⟨hx, hb, hml, hown, hts⟩ (c_X2_rowOrNull l dD cI cR cS lo x0 b ra sb hd ol σ hI x) (cwV 1 hts gX2_requireRow_X2_rowOrNull rfl rfl rfl (by decide +kernel) ⟨Nat.le_of_ble_eq_true rfl, Nat.le_of_ble_eq_true rfl⟩) (ePreV hE va_S.rf hP (k := 0) rfl rfl hP) rfl rfl hl.1 rfl (lv_room (Nat.le_of_ble_eq_true rfl)) dX2_requireRow_2 ⟨Nat.le_of_ble_eq_true rfl, Nat.le_of_ble_eq_true rfl⟩)) (fun r_2 hr_2 => ?_)
  rcases hr_2 with ⟨hri, rfl⟩ | ⟨hri, rfl⟩
  · obtain ⟨i, hi_, rfl⟩ := ri_of (by omega) hri
    rw [cl_nI (show i < 2 ^ 31 by omega)]
    refine lv_astore_n (lv' := [(2, .ref (ra i)), (0, .ref x0), (1, .int (nI i))]) hx hb dX2_requireRow_5 rfl hl (by decide) rfl (fun ls hl => ?_)
    refine lv_aload_n hx hb dX2_requireRow_6 rfl (lv_at hl 0 rfl) ?_
    refine lv_ifnonnull (tgt := 20) hx hb dX2_requireRow_7 (by decide) ?_
    refine lv_aload_n hx hb dX2_requireRow_20 rfl (lv_at hl 0 rfl) ?_
    exact vx_ret (W.widen (k := 1) (n := 6) (by decide) (by decide) (W.aret (v := .ref (ra i)) hx hb hr (Or.inl ⟨_, rfl⟩) (Or.inr ⟨_, rfl⟩) (fun u9 hu9 hW => ⟨ra i, rfl, ⟨hri, rfl⟩, hu9⟩) (fun q h => absurd h List.not_mem_nil) dX2_requireRow_21))
  · refine lv_astore_nN (lv' := [(2, .null), (0, .ref x0), (1, .int x)]) hx hb dX2_requireRow_5 rfl hl (by decide) rfl (fun ls hl => ?_)
    refine lv_aload_nN hx hb dX2_requireRow_6 rfl (lv_at hl 0 rfl) ?_
    refine lv_ifnonnullN hx hb dX2_requireRow_7 ?_
    exact nx_throw hx hb hfl hown hml hnt hlocks hts (by decide +kernel) (by decide +kernel) bad_iob ot_iob hE hE.1.2.2.2.2.2.1 hl dX2_requireRow_10 dX2_requireRow_13 dX2_requireRow_14 dX2_requireRow_16 dX2_requireRow_19 (Nat.le_of_ble_eq_true rfl) (Nat.le_of_ble_eq_true rfl) (Nat.le_of_ble_eq_true rfl) (Nat.le_of_ble_eq_true rfl) (⟨rfl, hri⟩) (by decide) (by decide)

set_option maxHeartbeats 4000000 in
set_option maxRecDepth 100000 in
theorem c_X2_value (l : Launch) (dD : va_G) (cI cR cS : ClassId) (lo : Nat) (hfl : l.stackTraces = false) (x0 : Nat) (b ra sb hd ol : Nat → Nat) (σ : St) (hI : sI σ) (x : Int32) : vx_Met l yX2_value wsX2_value ({ frames := 7, cells := 1, slots := 6, locals := 104 }) (ePc dD cI cR cS lo [.ref x0, .int x] (fun H => va_P dD vwCl (xW cI cR cS x0 b ra sb hd ol σ) H)) (vp_Si (fun r => ri x (s_n σ) ∧ r = nI (s_vl σ (cl x)))) (eX (fun E => E = nIOB ∧ ¬ ri x (s_n σ))) 1 6 (fun _ => False) := by
  refine vx_ofW (cc := cX2_value) (maxL := 2) (ret := (some .int)) (by decide) rfl ?_
  intro p e_ s m args below meth c s₁ B hml hnt hv
  obtain ⟨rfl, hE, hP⟩ := hv
  have hx := B.exec
  have hb := B.bytes
  have hr := B.returns
  have hts := atoms_spec (ws := wsX2_value) B.pre
  have hown : s.vm.findClass RX2 = some m.cls := findClass_of_methodNamed B.named
  have hlocks := B.notSynchronized
  have hK := hE.1.1
  have hinX0 : ∀ w ∈ u_ws RX0 TX0 7, w ∈ wsX2_value := by decide +kernel
  obtain ⟨i_now, i_n, i_tk, i_k, i_lt, i_row, i_cp, i_srv⟩ := id hI
  have hl := lv_entry ([.ref x0, .int x]) (n := 2) (Nat.le_of_ble_eq_true rfl)
  rw [lg_entry_eq]
  generalize (lg_sl ([.ref x0, .int x]) ++ List.replicate (2 - (lg_sl ([.ref x0, .int x])).length) Slot.unset).toArray = ls at hl ⊢
  have hl : lv_has ls 2 [(0, .ref x0), (1, .int x)] := hl
  refine lv_aload_n hx hb dX2_value_0 rfl (lv_at hl 0 rfl) ?_
  refine lv_iload_n hx hb dX2_value_1 rfl (lv_at hl 1 rfl) ?_
  refine nx_callr (vx_runV (As := [.int x]) (rest := []) ⟨hx, hb, hml, hown, hts⟩ (c_X2_requireRow l dD cI cR cS lo hfl x0 b ra sb hd ol σ hI x) (cwV 1 hts gX2_value_X2_requireRow rfl rfl rfl (by decide +kernel) ⟨Nat.le_of_ble_eq_true rfl, Nat.le_of_ble_eq_true rfl⟩) (ePreV hE va_S.rf hP (k := 0) rfl rfl hP) rfl rfl hl.1 rfl (lv_room (Nat.le_of_ble_eq_true rfl)) dX2_value_2 ⟨Nat.le_of_ble_eq_true rfl, Nat.le_of_ble_eq_true rfl⟩) (fun E ce q9 H1 hX9 hz9 hk9 hc9 hv9 hf9 => vx_out (fun x hx => (hnt x hx).elim) hlocks hc9 hv9 hf9 (fun t9 ht9 _ => ⟨hX9, by rw [ht9]; exact hz9, fun q hq _ => by rw [ht9]; exact hk9 q hq⟩) (fun z hz => absurd hz List.not_mem_nil) (by decide) (by decide)) (fun r_2 hr_2 => ?_)
  obtain ⟨hri, rfl⟩ := hr_2
  obtain ⟨i, hi_, rfl⟩ := ri_of (by omega) hri
  rw [cl_nI (show i < 2 ^ 31 by omega)]
  obtain ⟨hz_1, hz_2, hz_3, hz_4⟩ := i_row i hi_
  have hR := xRow hP hi_
  refine va_get (D := dD) (ci := 0) (v := .int (nI (s_vl σ i))) (C := RX0) (T := TX0) (N := 7) hx hb hts hinX0 hown hK hR 0 rfl rfl 5 (by decide) (hts (.fieldLink RX2 70 "FeatureStore$Row" "value" "I") (by decide +kernel)) (fun _ h9 => h9) rfl dX2_value_5 ?_
  exact vx_ret (W.widen (k := 1) (n := 6) (by decide) (by decide) (W.iret (v := nI (s_vl σ i)) hx hb hr (fun u9 hu9 hW => ⟨nI (s_vl σ i), rfl, ⟨hri, rfl⟩, hu9⟩) (fun q h => absurd h List.not_mem_nil) dX2_value_8))

set_option maxHeartbeats 4000000 in
set_option maxRecDepth 100000 in
theorem c_X2_late (l : Launch) (dD : va_G) (cI cR cS : ClassId) (lo : Nat) (hfl : l.stackTraces = false) (x0 : Nat) (b ra sb hd ol : Nat → Nat) (σ : St) (hI : sI σ) (x : Int32) : vx_Met l yX2_late wsX2_late ({ frames := 7, cells := 1, slots := 6, locals := 104 }) (ePc dD cI cR cS lo [.ref x0, .int x] (fun H => va_P dD vwCl (xW cI cR cS x0 b ra sb hd ol σ) H)) (vp_Si (fun r => ri x (s_n σ) ∧ r = nI (s_ar σ (cl x) - s_ev σ (cl x)))) (eX (fun E => E = nIOB ∧ ¬ ri x (s_n σ))) 1 6 (fun _ => False) := by
  refine vx_ofW (cc := cX2_late) (maxL := 3) (ret := (some .int)) (by decide) rfl ?_
  intro p e_ s m args below meth c s₁ B hml hnt hv
  obtain ⟨rfl, hE, hP⟩ := hv
  have hx := B.exec
  have hb := B.bytes
  have hr := B.returns
  have hts := atoms_spec (ws := wsX2_late) B.pre
  have hown : s.vm.findClass RX2 = some m.cls := findClass_of_methodNamed B.named
  have hlocks := B.notSynchronized
  have hK := hE.1.1
  have hinX0 : ∀ w ∈ u_ws RX0 TX0 7, w ∈ wsX2_late := by decide +kernel
  obtain ⟨i_now, i_n, i_tk, i_k, i_lt, i_row, i_cp, i_srv⟩ := id hI
  have hl := lv_entry ([.ref x0, .int x]) (n := 3) (Nat.le_of_ble_eq_true rfl)
  rw [lg_entry_eq]
  generalize (lg_sl ([.ref x0, .int x]) ++ List.replicate (3 - (lg_sl ([.ref x0, .int x])).length) Slot.unset).toArray = ls at hl ⊢
  have hl : lv_has ls 3 [(0, .ref x0), (1, .int x)] := hl
  refine lv_aload_n hx hb dX2_late_0 rfl (lv_at hl 0 rfl) ?_
  refine lv_iload_n hx hb dX2_late_1 rfl (lv_at hl 1 rfl) ?_
  refine nx_callr (vx_runV (As := [.int x]) (rest := []) ⟨hx, hb, hml, hown, hts⟩ (c_X2_requireRow l dD cI cR cS lo hfl x0 b ra sb hd ol σ hI x) (cwV 1 hts gX2_late_X2_requireRow rfl rfl rfl (by decide +kernel) ⟨Nat.le_of_ble_eq_true rfl, Nat.le_of_ble_eq_true rfl⟩) (ePreV hE va_S.rf hP (k := 0) rfl rfl hP) rfl rfl hl.1 rfl (lv_room (Nat.le_of_ble_eq_true rfl)) dX2_late_2 ⟨Nat.le_of_ble_eq_true rfl, Nat.le_of_ble_eq_true rfl⟩) (fun E ce q9 H1 hX9 hz9 hk9 hc9 hv9 hf9 => vx_out (fun x hx => (hnt x hx).elim) hlocks hc9 hv9 hf9 (fun t9 ht9 _ => ⟨hX9, by rw [ht9]; exact hz9, fun q hq _ => by rw [ht9]; exact hk9 q hq⟩) (fun z hz => absurd hz List.not_mem_nil) (by decide) (by decide)) (fun r_2 hr_2 => ?_)
  obtain ⟨hri, rfl⟩ := hr_2
  obtain ⟨i, hi_, rfl⟩ := ri_of (by omega) hri
  rw [cl_nI (show i < 2 ^ 31 by omega)]
  obtain ⟨hz_1, hz_2, hz_3, hz_4⟩ := i_row i hi_
  have hR := xRow hP hi_
  refine lv_astore_n (lv' := [(2, .ref (ra i)), (0, .ref x0), (1, .int (nI i))]) hx hb dX2_late_5 rfl hl (by decide) rfl (fun ls hl => ?_)
  refine lv_aload_n hx hb dX2_late_6 rfl (lv_at hl 0 rfl) ?_
  refine va_get (D := dD) (ci := 0) (v := .int (nI (s_ar σ i))) (C := RX0) (T := TX0) (N := 7) hx hb hts hinX0 hown hK hR 0 rfl rfl 4 (by decide) (hts (.fieldLink RX2 73 "FeatureStore$Row" "arrival" "I") (by decide +kernel)) (fun _ h9 => h9) rfl dX2_late_7 ?_
  refine lv_aload_n hx hb dX2_late_10 rfl (lv_at hl 0 rfl) ?_
  refine va_get (D := dD) (ci := 0) (v := .int (nI (s_ev σ i))) (C := RX0) (T := TX0) (N := 7) hx hb hts hinX0 hown hK hR 0 rfl rfl 3 (by decide) (hts (.fieldLink RX2 76 "FeatureStore$Row" "event" "I") (by decide +kernel)) (fun _ h9 => h9) rfl dX2_late_11 ?_
  refine nv_isub hx hb dX2_late_14 (by omega) ?_
  exact vx_ret (W.widen (k := 1) (n := 6) (by decide) (by decide) (W.iret (v := nI ((s_ar σ i) - (s_ev σ i))) hx hb hr (fun u9 hu9 hW => ⟨nI ((s_ar σ i) - (s_ev σ i)), rfl, ⟨hri, rfl⟩, hu9⟩) (fun q h => absurd h List.not_mem_nil) dX2_late_15))

set_option maxHeartbeats 4000000 in
set_option maxRecDepth 100000 in
theorem c_X2_requireServing (l : Launch) (dD : va_G) (cI cR cS : ClassId) (lo : Nat) (hfl : l.stackTraces = false) (x0 : Nat) (b ra sb hd ol : Nat → Nat) (σ : St) (hI : sI σ) (x : Int32) : vx_Met l yX2_requireServing wsX2_requireServing ({ frames := 6, cells := 1, slots := 6, locals := 82 }) (ePc dD cI cR cS lo [.ref x0, .int x] (fun H => va_P dD vwCl (xW cI cR cS x0 b ra sb hd ol σ) H)) (eSr (fun q => ri x (s_k σ) ∧ q = sb (cl x))) (eX (fun E => E = nIOB ∧ ¬ ri x (s_k σ))) 1 6 (fun _ => False) := by
  refine vx_ofW (cc := cX2_requireServing) (maxL := 2) (ret := (some (.object "FeatureStore$Serving"))) (by decide) rfl ?_
  intro p e_ s m args below meth c s₁ B hml hnt hv
  obtain ⟨rfl, hE, hP⟩ := hv
  have hx := B.exec
  have hb := B.bytes
  have hr := B.returns
  have hts := atoms_spec (ws := wsX2_requireServing) B.pre
  have hown : s.vm.findClass RX2 = some m.cls := findClass_of_methodNamed B.named
  have hlocks := B.notSynchronized
  have hK := hE.1.1
  have hinX2 : ∀ w ∈ u_ws RX2 TX2 9, w ∈ wsX2_requireServing := by decide +kernel
  obtain ⟨i_now, i_n, i_tk, i_k, i_lt, i_row, i_cp, i_srv⟩ := id hI
  have hl := lv_entry ([.ref x0, .int x]) (n := 2) (Nat.le_of_ble_eq_true rfl)
  rw [lg_entry_eq]
  generalize (lg_sl ([.ref x0, .int x]) ++ List.replicate (2 - (lg_sl ([.ref x0, .int x])).length) Slot.unset).toArray = ls at hl ⊢
  have hl : lv_has ls 2 [(0, .ref x0), (1, .int x)] := hl
  refine lv_iload_n hx hb dX2_requireServing_0 rfl (lv_at hl 1 rfl) ?_
  refine lv_if_lt (tgt := 21) hx hb dX2_requireServing_1 (by decide) (fun c_1 => ?_) (fun c_1 => ?_)
  · exact nx_throw hx hb hfl hown hml hnt hlocks hts (by decide +kernel) (by decide +kernel) bad_iob ot_iob hE hE.1.2.2.2.2.2.2.1 hl dX2_requireServing_21 dX2_requireServing_24 dX2_requireServing_25 dX2_requireServing_27 dX2_requireServing_30 (Nat.le_of_ble_eq_true rfl) (Nat.le_of_ble_eq_true rfl) (Nat.le_of_ble_eq_true rfl) (Nat.le_of_ble_eq_true rfl) (⟨rfl, fun h => absurd c_1 (Int32.not_lt.mpr h.1)⟩) (by decide) (by decide)
  · refine lv_iload_n hx hb dX2_requireServing_4 rfl (lv_at hl 1 rfl) ?_
    refine lv_aload_n hx hb dX2_requireServing_5 rfl (lv_at hl 0 rfl) ?_
    refine va_get (D := dD) (ci := 2) (v := .int (nI (s_k σ))) (C := RX2) (T := TX2) (N := 9) hx hb hts hinX2 hown hK hP 0 rfl rfl 8 (by decide) (hts (.fieldLink RX2 114 "FeatureStore" "servingCount" "I") (by decide +kernel)) (fun _ h9 => h9) rfl dX2_requireServing_6 ?_
    refine lv_icmp_ge (tgt := 21) hx hb dX2_requireServing_9 (by decide) (fun c_9 => ?_) (fun c_9 => ?_)
    · exact nx_throw hx hb hfl hown hml hnt hlocks hts (by decide +kernel) (by decide +kernel) bad_iob ot_iob hE hE.1.2.2.2.2.2.2.1 hl dX2_requireServing_21 dX2_requireServing_24 dX2_requireServing_25 dX2_requireServing_27 dX2_requireServing_30 (Nat.le_of_ble_eq_true rfl) (Nat.le_of_ble_eq_true rfl) (Nat.le_of_ble_eq_true rfl) (Nat.le_of_ble_eq_true rfl) (⟨rfl, fun h => absurd c_9 (Int32.not_le.mpr h.2)⟩) (by decide) (by decide)
    · have hri : ri x (s_k σ) := ⟨Int32.not_lt.mp c_1, Int32.not_le.mp c_9⟩
      obtain ⟨i, hi_, rfl⟩ := ri_of (by omega) hri
      refine lv_aload_n hx hb dX2_requireServing_12 rfl (lv_at hl 0 rfl) ?_
      refine va_get (D := dD) (ci := 2) (v := .ref (b 4)) (C := RX2) (T := TX2) (N := 9) hx hb hts hinX2 hown hK hP 0 rfl rfl 7 (by decide) (hts (.fieldLink RX2 27 "FeatureStore" "servings" "[LFeatureStore$Serving;") (by decide +kernel)) (fun _ h9 => h9) rfl dX2_requireServing_13 ?_
      refine lv_iload_n hx hb dX2_requireServing_16 rfl (lv_at hl 1 rfl) ?_
      refine nq_aaldP (q0 := 5) (t0 := 2) (sb) hx hb hK hP rfl rfl (by omega) (by decide) (by omega) dX2_requireServing_17 ?_
      refine lv_ifnonnull (tgt := 31) hx hb dX2_requireServing_18 (by decide) ?_
      refine lv_aload_n hx hb dX2_requireServing_31 rfl (lv_at hl 0 rfl) ?_
      refine va_get (D := dD) (ci := 2) (v := .ref (b 4)) (C := RX2) (T := TX2) (N := 9) hx hb hts hinX2 hown hK hP 0 rfl rfl 7 (by decide) (hts (.fieldLink RX2 27 "FeatureStore" "servings" "[LFeatureStore$Serving;") (by decide +kernel)) (fun _ h9 => h9) rfl dX2_requireServing_32 ?_
      refine lv_iload_n hx hb dX2_requireServing_35 rfl (lv_at hl 1 rfl) ?_
      refine nq_aaldP (q0 := 5) (t0 := 2) (sb) hx hb hK hP rfl rfl (by omega) (by decide) (by omega) dX2_requireServing_36 ?_
      exact vx_ret (W.widen (k := 1) (n := 6) (by decide) (by decide) (W.aret (v := .ref (sb i)) hx hb hr (Or.inl ⟨_, rfl⟩) (Or.inr ⟨_, rfl⟩) (fun u9 hu9 hW => ⟨sb i, rfl, ⟨hri, by rw [cl_nI (by omega)]⟩, hu9⟩) (fun q h => absurd h List.not_mem_nil) dX2_requireServing_37))

set_option maxHeartbeats 4000000 in
set_option maxRecDepth 100000 in
theorem c_X2_requireServing_ok (l : Launch) (dD : va_G) (cI cR cS : ClassId) (lo : Nat) (x0 : Nat) (b ra sb hd ol : Nat → Nat) (σ : St) (hI : sI σ) (i : Nat) (hi_ : i < s_k σ) : Met l yX2_requireServing wsX2_requireServing ({ frames := 0, cells := 0, slots := 0, locals := 0 }) (ePc dD cI cR cS lo [.ref x0, .int (nI i)] (fun H => va_P dD vwCl (xW cI cR cS x0 b ra sb hd ol σ) H)) (eSr (fun q => q = sb i)) 0 0 (fun _ => False) := by
  refine Met.ofW (cc := cX2_requireServing) (maxL := 2) (ret := (some (.object "FeatureStore$Serving"))) (by decide) rfl ?_
  intro p e_ s m args below meth c s₁ B hml hv
  obtain ⟨rfl, hE, hP⟩ := hv
  have hx := B.exec
  have hb := B.bytes
  have hr := B.returns
  have hts := atoms_spec (ws := wsX2_requireServing) B.pre
  have hown : s.vm.findClass RX2 = some m.cls := findClass_of_methodNamed B.named
  have hlocks := B.notSynchronized
  have hK := hE.1.1
  have hinX2 : ∀ w ∈ u_ws RX2 TX2 9, w ∈ wsX2_requireServing := by decide +kernel
  obtain ⟨i_now, i_n, i_tk, i_k, i_lt, i_row, i_cp, i_srv⟩ := id hI
  have hl := lv_entry ([.ref x0, .int (nI i)]) (n := 2) (Nat.le_of_ble_eq_true rfl)
  rw [lg_entry_eq]
  generalize (lg_sl ([.ref x0, .int (nI i)]) ++ List.replicate (2 - (lg_sl ([.ref x0, .int (nI i)])).length) Slot.unset).toArray = ls at hl ⊢
  have hl : lv_has ls 2 [(0, .ref x0), (1, .int (nI i))] := hl
  refine lv_iload_n hx hb dX2_requireServing_0 rfl (lv_at hl 1 rfl) ?_
  refine nv_if_lt (tgt := 21) hx hb dX2_requireServing_1 (by decide) (by omega) (fun c_1 => absurd c_1 (by omega)) (fun c_1 => ?_)
  refine lv_iload_n hx hb dX2_requireServing_4 rfl (lv_at hl 1 rfl) ?_
  refine lv_aload_n hx hb dX2_requireServing_5 rfl (lv_at hl 0 rfl) ?_
  refine va_get (D := dD) (ci := 2) (v := .int (nI (s_k σ))) (C := RX2) (T := TX2) (N := 9) hx hb hts hinX2 hown hK hP 0 rfl rfl 8 (by decide) (hts (.fieldLink RX2 114 "FeatureStore" "servingCount" "I") (by decide +kernel)) (fun _ h9 => h9) rfl dX2_requireServing_6 ?_
  refine nv_ge (tgt := 21) hx hb dX2_requireServing_9 (by decide) (by omega) (by omega) (fun c_9 => absurd c_9 (by omega)) (fun c_9 => ?_)
  refine lv_aload_n hx hb dX2_requireServing_12 rfl (lv_at hl 0 rfl) ?_
  refine va_get (D := dD) (ci := 2) (v := .ref (b 4)) (C := RX2) (T := TX2) (N := 9) hx hb hts hinX2 hown hK hP 0 rfl rfl 7 (by decide) (hts (.fieldLink RX2 27 "FeatureStore" "servings" "[LFeatureStore$Serving;") (by decide +kernel)) (fun _ h9 => h9) rfl dX2_requireServing_13 ?_
  refine lv_iload_n hx hb dX2_requireServing_16 rfl (lv_at hl 1 rfl) ?_
  refine nq_aaldP (q0 := 5) (t0 := 2) (sb) hx hb hK hP rfl rfl (by omega) (by decide) (by omega) dX2_requireServing_17 ?_
  refine lv_ifnonnull (tgt := 31) hx hb dX2_requireServing_18 (by decide) ?_
  refine lv_aload_n hx hb dX2_requireServing_31 rfl (lv_at hl 0 rfl) ?_
  refine va_get (D := dD) (ci := 2) (v := .ref (b 4)) (C := RX2) (T := TX2) (N := 9) hx hb hts hinX2 hown hK hP 0 rfl rfl 7 (by decide) (hts (.fieldLink RX2 27 "FeatureStore" "servings" "[LFeatureStore$Serving;") (by decide +kernel)) (fun _ h9 => h9) rfl dX2_requireServing_32 ?_
  refine lv_iload_n hx hb dX2_requireServing_35 rfl (lv_at hl 1 rfl) ?_
  refine nq_aaldP (q0 := 5) (t0 := 2) (sb) hx hb hK hP rfl rfl (by omega) (by decide) (by omega) dX2_requireServing_36 ?_
  exact W.aret (v := .ref (sb i)) hx hb hr (Or.inl ⟨_, rfl⟩) (Or.inr ⟨_, rfl⟩) (fun u9 hu9 hW => ⟨sb i, rfl, rfl, hu9⟩) (fun q h => absurd h List.not_mem_nil) dX2_requireServing_37

set_option maxHeartbeats 4000000 in
set_option maxRecDepth 100000 in
theorem c_X2_served (l : Launch) (dD : va_G) (cI cR cS : ClassId) (lo : Nat) (hfl : l.stackTraces = false) (x0 : Nat) (b ra sb hd ol : Nat → Nat) (σ : St) (hI : sI σ) (x : Int32) : vx_Met l yX2_served wsX2_served ({ frames := 7, cells := 1, slots := 6, locals := 103 }) (ePc dD cI cR cS lo [.ref x0, .int x] (fun H => va_P dD vwCl (xW cI cR cS x0 b ra sb hd ol σ) H)) (vp_Si (fun r => ri x (s_k σ) ∧ r = eN (s_sv σ (cl x)))) (eX (fun E => E = nIOB ∧ ¬ ri x (s_k σ))) 1 6 (fun _ => False) := by
  refine vx_ofW (cc := cX2_served) (maxL := 2) (ret := (some .int)) (by decide) rfl ?_
  intro p e_ s m args below meth c s₁ B hml hnt hv
  obtain ⟨rfl, hE, hP⟩ := hv
  have hx := B.exec
  have hb := B.bytes
  have hr := B.returns
  have hts := atoms_spec (ws := wsX2_served) B.pre
  have hown : s.vm.findClass RX2 = some m.cls := findClass_of_methodNamed B.named
  have hlocks := B.notSynchronized
  have hK := hE.1.1
  have hinX1 : ∀ w ∈ u_ws RX1 TX1 4, w ∈ wsX2_served := by decide +kernel
  obtain ⟨i_now, i_n, i_tk, i_k, i_lt, i_row, i_cp, i_srv⟩ := id hI
  have hl := lv_entry ([.ref x0, .int x]) (n := 2) (Nat.le_of_ble_eq_true rfl)
  rw [lg_entry_eq]
  generalize (lg_sl ([.ref x0, .int x]) ++ List.replicate (2 - (lg_sl ([.ref x0, .int x])).length) Slot.unset).toArray = ls at hl ⊢
  have hl : lv_has ls 2 [(0, .ref x0), (1, .int x)] := hl
  refine lv_aload_n hx hb dX2_served_0 rfl (lv_at hl 0 rfl) ?_
  refine lv_iload_n hx hb dX2_served_1 rfl (lv_at hl 1 rfl) ?_
  refine nx_callr (vx_runV (As := [.int x]) (rest := []) ⟨hx, hb, hml, hown, hts⟩ (c_X2_requireServing l dD cI cR cS lo hfl x0 b ra sb hd ol σ hI x) (cwV 1 hts gX2_served_X2_requireServing rfl rfl rfl (by decide +kernel) ⟨Nat.le_of_ble_eq_true rfl, Nat.le_of_ble_eq_true rfl⟩) (ePreV hE va_S.rf hP (k := 0) rfl rfl hP) rfl rfl hl.1 rfl (lv_room (Nat.le_of_ble_eq_true rfl)) dX2_served_2 ⟨Nat.le_of_ble_eq_true rfl, Nat.le_of_ble_eq_true rfl⟩) (fun E ce q9 H1 hX9 hz9 hk9 hc9 hv9 hf9 => vx_out (fun x hx => (hnt x hx).elim) hlocks hc9 hv9 hf9 (fun t9 ht9 _ => ⟨hX9, by rw [ht9]; exact hz9, fun q hq _ => by rw [ht9]; exact hk9 q hq⟩) (fun z hz => absurd hz List.not_mem_nil) (by decide) (by decide)) (fun r_2 hr_2 => ?_)
  obtain ⟨hri, rfl⟩ := hr_2
  obtain ⟨i, hi_, rfl⟩ := ri_of (by omega) hri
  rw [cl_nI (show i < 2 ^ 31 by omega)]
  obtain ⟨hz_1, hz_2, hz_3⟩ := i_srv i hi_
  have hV := xSrv hP hi_
  refine va_get (D := dD) (ci := 1) (v := .int (eN (s_sv σ i))) (C := RX1) (T := TX1) (N := 4) hx hb hts hinX1 hown hK hV 0 rfl rfl 3 (by decide) (hts (.fieldLink RX2 126 "FeatureStore$Serving" "row" "I") (by decide +kernel)) (fun _ h9 => h9) rfl dX2_served_5 ?_
  exact vx_ret (W.widen (k := 1) (n := 6) (by decide) (by decide) (W.iret (v := eN (s_sv σ i)) hx hb hr (fun u9 hu9 hW => ⟨eN (s_sv σ i), rfl, ⟨hri, rfl⟩, hu9⟩) (fun q h => absurd h List.not_mem_nil) dX2_served_8))

set_option maxHeartbeats 4000000 in
set_option maxRecDepth 100000 in
theorem c_X2_isSound (l : Launch) (dD : va_G) (cI cR cS : ClassId) (lo : Nat) (hfl : l.stackTraces = false) (x0 : Nat) (b ra sb hd ol : Nat → Nat) (σ : St) (hI : sI σ) (hX : xI σ hd ol) (x : Int32) : vx_Met l yX2_isSound wsX2_isSound ({ frames := 7, cells := 1, slots := 6, locals := 103 }) (ePc dD cI cR cS lo [.ref x0, .int x] (fun H => va_P dD vwCl (xW cI cR cS x0 b ra sb hd ol σ) H)) (vp_Si (fun r => ri x (s_k σ) ∧ r = nI (q_snd σ (cl x)))) (eX (fun E => E = nIOB ∧ ¬ ri x (s_k σ))) 1 6 (fun _ => False) := by
  refine vx_ofW (cc := cX2_isSound) (maxL := 3) (ret := (some .boolean)) (by decide) rfl ?_
  intro p e_ s m args below meth c s₁ B hml hnt hv
  obtain ⟨rfl, hE, hP⟩ := hv
  have hx := B.exec
  have hb := B.bytes
  have hr := B.returns
  have hts := atoms_spec (ws := wsX2_isSound) B.pre
  have hown : s.vm.findClass RX2 = some m.cls := findClass_of_methodNamed B.named
  have hlocks := B.notSynchronized
  have hK := hE.1.1
  have hinX1 : ∀ w ∈ u_ws RX1 TX1 4, w ∈ wsX2_isSound := by decide +kernel
  obtain ⟨i_now, i_n, i_tk, i_k, i_lt, i_row, i_cp, i_srv⟩ := id hI
  have hl := lv_entry ([.ref x0, .int x]) (n := 3) (Nat.le_of_ble_eq_true rfl)
  rw [lg_entry_eq]
  generalize (lg_sl ([.ref x0, .int x]) ++ List.replicate (3 - (lg_sl ([.ref x0, .int x])).length) Slot.unset).toArray = ls at hl ⊢
  have hl : lv_has ls 3 [(0, .ref x0), (1, .int x)] := hl
  refine lv_aload_n hx hb dX2_isSound_0 rfl (lv_at hl 0 rfl) ?_
  refine lv_iload_n hx hb dX2_isSound_1 rfl (lv_at hl 1 rfl) ?_
  refine nx_callr (vx_runV (As := [.int x]) (rest := []) ⟨hx, hb, hml, hown, hts⟩ (c_X2_requireServing l dD cI cR cS lo hfl x0 b ra sb hd ol σ hI x) (cwV 1 hts gX2_isSound_X2_requireServing rfl rfl rfl (by decide +kernel) ⟨Nat.le_of_ble_eq_true rfl, Nat.le_of_ble_eq_true rfl⟩) (ePreV hE va_S.rf hP (k := 0) rfl rfl hP) rfl rfl hl.1 rfl (lv_room (Nat.le_of_ble_eq_true rfl)) dX2_isSound_2 ⟨Nat.le_of_ble_eq_true rfl, Nat.le_of_ble_eq_true rfl⟩) (fun E ce q9 H1 hX9 hz9 hk9 hc9 hv9 hf9 => vx_out (fun x hx => (hnt x hx).elim) hlocks hc9 hv9 hf9 (fun t9 ht9 _ => ⟨hX9, by rw [ht9]; exact hz9, fun q hq _ => by rw [ht9]; exact hk9 q hq⟩) (fun z hz => absurd hz List.not_mem_nil) (by decide) (by decide)) (fun r_2 hr_2 => ?_)
  obtain ⟨hri, rfl⟩ := hr_2
  obtain ⟨i, hi_, rfl⟩ := ri_of (by omega) hri
  rw [cl_nI (show i < 2 ^ 31 by omega)]
  obtain ⟨hz_1, hz_2, hz_3⟩ := i_srv i hi_
  have hV := xSrv hP hi_
  have hz_j := q_join_le σ (s_sp σ i) (s_sa σ i) (s_sa σ i)
  refine lv_astore_n (lv' := [(2, .ref (sb i)), (0, .ref x0), (1, .int (nI i))]) hx hb dX2_isSound_5 rfl hl (by decide) rfl (fun ls hl => ?_)
  refine lv_aload_n hx hb dX2_isSound_6 rfl (lv_at hl 0 rfl) ?_
  refine va_get (D := dD) (ci := 1) (v := .int (eN (s_sv σ i))) (C := RX1) (T := TX1) (N := 4) hx hb hts hinX1 hown hK hV 0 rfl rfl 3 (by decide) (hts (.fieldLink RX2 126 "FeatureStore$Serving" "row" "I") (by decide +kernel)) (fun _ h9 => h9) rfl dX2_isSound_7 ?_
  refine lv_aload_n hx hb dX2_isSound_10 rfl (lv_at hl 1 rfl) ?_
  refine lv_aload_n hx hb dX2_isSound_11 rfl (lv_at hl 0 rfl) ?_
  refine va_get (D := dD) (ci := 1) (v := .int (nI (s_sp σ i / 10))) (C := RX1) (T := TX1) (N := 4) hx hb hts hinX1 hown hK hV 0 rfl rfl 0 (by decide) (hts (.fieldLink RX2 129 "FeatureStore$Serving" "feature" "I") (by decide +kernel)) (fun _ h9 => h9) rfl dX2_isSound_12 ?_
  refine lv_aload_n hx hb dX2_isSound_15 rfl (lv_at hl 0 rfl) ?_
  refine va_get (D := dD) (ci := 1) (v := .int (nI (s_sp σ i % 10))) (C := RX1) (T := TX1) (N := 4) hx hb hts hinX1 hown hK hV 0 rfl rfl 1 (by decide) (hts (.fieldLink RX2 132 "FeatureStore$Serving" "entity" "I") (by decide +kernel)) (fun _ h9 => h9) rfl dX2_isSound_16 ?_
  refine lv_aload_n hx hb dX2_isSound_19 rfl (lv_at hl 0 rfl) ?_
  refine va_get (D := dD) (ci := 1) (v := .int (nI (s_sa σ i))) (C := RX1) (T := TX1) (N := 4) hx hb hts hinX1 hown hK hV 0 rfl rfl 2 (by decide) (hts (.fieldLink RX2 135 "FeatureStore$Serving" "time" "I") (by decide +kernel)) (fun _ h9 => h9) rfl dX2_isSound_20 ?_
  refine lv_aload_n hx hb dX2_isSound_23 rfl (lv_at hl 0 rfl) ?_
  refine va_get (D := dD) (ci := 1) (v := .int (nI (s_sa σ i))) (C := RX1) (T := TX1) (N := 4) hx hb hts hinX1 hown hK hV 0 rfl rfl 2 (by decide) (hts (.fieldLink RX2 135 "FeatureStore$Serving" "time" "I") (by decide +kernel)) (fun _ h9 => h9) rfl dX2_isSound_24 ?_
  refine vp_callSi (va_Run.run (va_runV (As := [.int (nI (s_sp σ i / 10)), .int (nI (s_sp σ i % 10)), .int (nI (s_sa σ i)), .int (nI (s_sa σ i))]) (rest := [.int (eN (s_sv σ i))]) ⟨hx, hb, hml, hown, hts⟩ (c_X2_find l dD cI cR cS lo x0 b ra sb hd ol σ hI hX (s_sp σ i / 10) (s_sp σ i % 10) (s_sa σ i) (s_sa σ i) (by omega) (by omega) (by omega) (by omega)) (cwV 4 hts gX2_isSound_X2_find rfl rfl rfl (by decide +kernel) ⟨Nat.le_of_ble_eq_true rfl, Nat.le_of_ble_eq_true rfl⟩) (ePreV hE va_S.rf hP (k := 0) rfl rfl hP) rfl rfl hl.1 rfl (lv_room (Nat.le_of_ble_eq_true rfl)) dX2_isSound_27 ⟨Nat.le_of_ble_eq_true rfl, Nat.le_of_ble_eq_true rfl⟩)) (fun r_27 hr_27 => ?_)
  rw [show 10 * (s_sp σ i / 10) + (s_sp σ i % 10) = s_sp σ i from by omega] at hr_27
  subst hr_27
  refine nv_neN (tgt := 37) hx hb dX2_isSound_30 (by decide) (by omega) (by omega) (fun c_30 => ?_) (fun c_30 => ?_)
  · refine lv_iconst (v := nI 0) hx hb dX2_isSound_37 (by decide +kernel) ?_
    exact vx_ret (W.widen (k := 1) (n := 6) (by decide) (by decide) (W.zret (v := nI 0) hx hb hr rfl (fun u9 hu9 hW => ⟨nI 0, rfl, ⟨hri, by rw [q_snd, if_neg c_30]⟩, hu9⟩) (fun q h => absurd h List.not_mem_nil) dX2_isSound_38))
  · refine lv_iconst (v := nI 1) hx hb dX2_isSound_33 (by decide +kernel) ?_
    refine lv_goto (tgt := 38) hx hb dX2_isSound_34 (by decide) ?_
    exact vx_ret (W.widen (k := 1) (n := 6) (by decide) (by decide) (W.zret (v := nI 1) hx hb hr rfl (fun u9 hu9 hW => ⟨nI 1, rfl, ⟨hri, by rw [q_snd, if_pos c_30]⟩, hu9⟩) (fun q h => absurd h List.not_mem_nil) dX2_isSound_38))

set_option maxHeartbeats 4000000 in
set_option maxRecDepth 100000 in
theorem c_X2_isSound_ok (l : Launch) (dD : va_G) (cI cR cS : ClassId) (lo : Nat) (x0 : Nat) (b ra sb hd ol : Nat → Nat) (σ : St) (hI : sI σ) (hX : xI σ hd ol) (i : Nat) (hi_ : i < s_k σ) : Met l yX2_isSound wsX2_isSound ({ frames := 2, cells := 0, slots := 0, locals := 47 }) (ePc dD cI cR cS lo [.ref x0, .int (nI i)] (fun H => va_P dD vwCl (xW cI cR cS x0 b ra sb hd ol σ) H)) (vp_Si (fun r => r = nI (q_snd σ i))) 0 0 (fun _ => False) := by
  refine Met.ofW (cc := cX2_isSound) (maxL := 3) (ret := (some .boolean)) (by decide) rfl ?_
  intro p e_ s m args below meth c s₁ B hml hv
  obtain ⟨rfl, hE, hP⟩ := hv
  have hx := B.exec
  have hb := B.bytes
  have hr := B.returns
  have hts := atoms_spec (ws := wsX2_isSound) B.pre
  have hown : s.vm.findClass RX2 = some m.cls := findClass_of_methodNamed B.named
  have hlocks := B.notSynchronized
  have hK := hE.1.1
  have hinX1 : ∀ w ∈ u_ws RX1 TX1 4, w ∈ wsX2_isSound := by decide +kernel
  obtain ⟨i_now, i_n, i_tk, i_k, i_lt, i_row, i_cp, i_srv⟩ := id hI
  have hl := lv_entry ([.ref x0, .int (nI i)]) (n := 3) (Nat.le_of_ble_eq_true rfl)
  rw [lg_entry_eq]
  generalize (lg_sl ([.ref x0, .int (nI i)]) ++ List.replicate (3 - (lg_sl ([.ref x0, .int (nI i)])).length) Slot.unset).toArray = ls at hl ⊢
  have hl : lv_has ls 3 [(0, .ref x0), (1, .int (nI i))] := hl
  refine lv_aload_n hx hb dX2_isSound_0 rfl (lv_at hl 0 rfl) ?_
  refine lv_iload_n hx hb dX2_isSound_1 rfl (lv_at hl 1 rfl) ?_
  refine nx_callEr (va_Run.run (va_runV (As := [.int (nI i)]) (rest := []) ⟨hx, hb, hml, hown, hts⟩ (c_X2_requireServing_ok l dD cI cR cS lo x0 b ra sb hd ol σ hI i hi_) (cwV 1 hts gX2_isSound_X2_requireServing rfl rfl rfl (by decide +kernel) ⟨Nat.le_of_ble_eq_true rfl, Nat.le_of_ble_eq_true rfl⟩) (ePreV hE va_S.rf hP (k := 0) rfl rfl hP) rfl rfl hl.1 rfl (lv_room (Nat.le_of_ble_eq_true rfl)) dX2_isSound_2 ⟨Nat.le_of_ble_eq_true rfl, Nat.le_of_ble_eq_true rfl⟩)) (fun r_2 hr_2 => ?_)
  subst hr_2
  obtain ⟨hz_1, hz_2, hz_3⟩ := i_srv i hi_
  have hV := xSrv hP hi_
  have hz_j := q_join_le σ (s_sp σ i) (s_sa σ i) (s_sa σ i)
  refine lv_astore_n (lv' := [(2, .ref (sb i)), (0, .ref x0), (1, .int (nI i))]) hx hb dX2_isSound_5 rfl hl (by decide) rfl (fun ls hl => ?_)
  refine lv_aload_n hx hb dX2_isSound_6 rfl (lv_at hl 0 rfl) ?_
  refine va_get (D := dD) (ci := 1) (v := .int (eN (s_sv σ i))) (C := RX1) (T := TX1) (N := 4) hx hb hts hinX1 hown hK hV 0 rfl rfl 3 (by decide) (hts (.fieldLink RX2 126 "FeatureStore$Serving" "row" "I") (by decide +kernel)) (fun _ h9 => h9) rfl dX2_isSound_7 ?_
  refine lv_aload_n hx hb dX2_isSound_10 rfl (lv_at hl 1 rfl) ?_
  refine lv_aload_n hx hb dX2_isSound_11 rfl (lv_at hl 0 rfl) ?_
  refine va_get (D := dD) (ci := 1) (v := .int (nI (s_sp σ i / 10))) (C := RX1) (T := TX1) (N := 4) hx hb hts hinX1 hown hK hV 0 rfl rfl 0 (by decide) (hts (.fieldLink RX2 129 "FeatureStore$Serving" "feature" "I") (by decide +kernel)) (fun _ h9 => h9) rfl dX2_isSound_12 ?_
  refine lv_aload_n hx hb dX2_isSound_15 rfl (lv_at hl 0 rfl) ?_
  refine va_get (D := dD) (ci := 1) (v := .int (nI (s_sp σ i % 10))) (C := RX1) (T := TX1) (N := 4) hx hb hts hinX1 hown hK hV 0 rfl rfl 1 (by decide) (hts (.fieldLink RX2 132 "FeatureStore$Serving" "entity" "I") (by decide +kernel)) (fun _ h9 => h9) rfl dX2_isSound_16 ?_
  refine lv_aload_n hx hb dX2_isSound_19 rfl (lv_at hl 0 rfl) ?_
  refine va_get (D := dD) (ci := 1) (v := .int (nI (s_sa σ i))) (C := RX1) (T := TX1) (N := 4) hx hb hts hinX1 hown hK hV 0 rfl rfl 2 (by decide) (hts (.fieldLink RX2 135 "FeatureStore$Serving" "time" "I") (by decide +kernel)) (fun _ h9 => h9) rfl dX2_isSound_20 ?_
  refine lv_aload_n hx hb dX2_isSound_23 rfl (lv_at hl 0 rfl) ?_
  refine va_get (D := dD) (ci := 1) (v := .int (nI (s_sa σ i))) (C := RX1) (T := TX1) (N := 4) hx hb hts hinX1 hown hK hV 0 rfl rfl 2 (by decide) (hts (.fieldLink RX2 135 "FeatureStore$Serving" "time" "I") (by decide +kernel)) (fun _ h9 => h9) rfl dX2_isSound_24 ?_
  refine vp_callSi (va_Run.run (va_runV (As := [.int (nI (s_sp σ i / 10)), .int (nI (s_sp σ i % 10)), .int (nI (s_sa σ i)), .int (nI (s_sa σ i))]) (rest := [.int (eN (s_sv σ i))]) ⟨hx, hb, hml, hown, hts⟩ (c_X2_find l dD cI cR cS lo x0 b ra sb hd ol σ hI hX (s_sp σ i / 10) (s_sp σ i % 10) (s_sa σ i) (s_sa σ i) (by omega) (by omega) (by omega) (by omega)) (cwV 4 hts gX2_isSound_X2_find rfl rfl rfl (by decide +kernel) ⟨Nat.le_of_ble_eq_true rfl, Nat.le_of_ble_eq_true rfl⟩) (ePreV hE va_S.rf hP (k := 0) rfl rfl hP) rfl rfl hl.1 rfl (lv_room (Nat.le_of_ble_eq_true rfl)) dX2_isSound_27 ⟨Nat.le_of_ble_eq_true rfl, Nat.le_of_ble_eq_true rfl⟩)) (fun r_27 hr_27 => ?_)
  rw [show 10 * (s_sp σ i / 10) + (s_sp σ i % 10) = s_sp σ i from by omega] at hr_27
  subst hr_27
  refine nv_neN (tgt := 37) hx hb dX2_isSound_30 (by decide) (by omega) (by omega) (fun c_30 => ?_) (fun c_30 => ?_)
  · refine lv_iconst (v := nI 0) hx hb dX2_isSound_37 (by decide +kernel) ?_
    exact W.zret (v := nI 0) hx hb hr rfl (fun u9 hu9 hW => ⟨nI 0, rfl, by rw [q_snd, if_neg c_30], hu9⟩) (fun q h => absurd h List.not_mem_nil) dX2_isSound_38
  · refine lv_iconst (v := nI 1) hx hb dX2_isSound_33 (by decide +kernel) ?_
    refine lv_goto (tgt := 38) hx hb dX2_isSound_34 (by decide) ?_
    exact W.zret (v := nI 1) hx hb hr rfl (fun u9 hu9 hW => ⟨nI 1, rfl, by rw [q_snd, if_pos c_30], hu9⟩) (fun q h => absurd h List.not_mem_nil) dX2_isSound_38

set_option maxHeartbeats 4000000 in
set_option maxRecDepth 100000 in
theorem c_X2_unsound (l : Launch) (dD : va_G) (cI cR cS : ClassId) (lo : Nat) (x0 : Nat) (b ra sb hd ol : Nat → Nat) (σ : St) (hI : sI σ) (hX : xI σ hd ol) : Met l yX2_unsound wsX2_unsound ({ frames := 3, cells := 0, slots := 0, locals := 69 }) (ePc dD cI cR cS lo [.ref x0] (fun H => va_P dD vwCl (xW cI cR cS x0 b ra sb hd ol σ) H)) (vp_Si (fun r => r = nI (q_uns σ (s_k σ)))) 0 0 (fun _ => False) := by
  refine Met.ofW (cc := cX2_unsound) (maxL := 3) (ret := (some .int)) (by decide) rfl ?_
  intro p e_ s m args below meth c s₁ B hml hv
  obtain ⟨rfl, hE, hP⟩ := hv
  have hx := B.exec
  have hb := B.bytes
  have hr := B.returns
  have hts := atoms_spec (ws := wsX2_unsound) B.pre
  have hown : s.vm.findClass RX2 = some m.cls := findClass_of_methodNamed B.named
  have hlocks := B.notSynchronized
  have hK := hE.1.1
  have hinX2 : ∀ w ∈ u_ws RX2 TX2 9, w ∈ wsX2_unsound := by decide +kernel
  obtain ⟨i_now, i_n, i_tk, i_k, i_lt, i_row, i_cp, i_srv⟩ := id hI
  have hl := lv_entry ([.ref x0]) (n := 3) (Nat.le_of_ble_eq_true rfl)
  rw [lg_entry_eq]
  generalize (lg_sl ([.ref x0]) ++ List.replicate (3 - (lg_sl ([.ref x0])).length) Slot.unset).toArray = ls at hl ⊢
  have hl : lv_has ls 3 [(0, .ref x0)] := hl
  refine lv_iconst (v := nI 0) hx hb dX2_unsound_0 (by decide +kernel) ?_
  refine lv_istore_n (lv' := [(1, .int (nI 0)), (0, .ref x0)]) hx hb dX2_unsound_1 rfl hl (by decide) rfl (fun ls hl => ?_)
  refine lv_iconst (v := nI 0) hx hb dX2_unsound_2 (by decide +kernel) ?_
  refine lv_istore_n (lv' := [(2, .int (nI 0)), (1, .int (nI 0)), (0, .ref x0)]) hx hb dX2_unsound_3 rfl hl (by decide) rfl (fun ls hl => ?_)
  have hlp : ∀ (d : Nat) (i : Nat), i ≤ s_k σ → s_k σ < i + d → ∀ (ls : Array Slot), lv_has ls 3 [(0, .ref x0), (1, .int (nI (q_uns σ i))), (2, .int (nI i))] → W p l e_ (headSpec wsX2_unsound ({ frames := 3, cells := 0, slots := 0, locals := 69 })).room s m (([.ref x0] : List Value).toArray) below meth c s.heap [] 0 0 (MQ below (vp_Si (fun r => r = nI (q_uns σ (s_k σ)))) ([.ref x0] : List Value).toArray s 0 0 (fun _ => False)) (F0 m 4 ls []) := by
    intro d
    induction d with
    | zero =>
      intro i hr1 hr2 ls hl
      exact absurd hr2 (by omega)
    | succ d ih =>
      intro i hr1 hr2 ls hl
      refine lv_iload_n hx hb dX2_unsound_4 rfl (lv_at hl 2 rfl) ?_
      refine lv_aload_n hx hb dX2_unsound_5 rfl (lv_at hl 0 rfl) ?_
      refine va_get (D := dD) (ci := 2) (v := .int (nI (s_k σ))) (C := RX2) (T := TX2) (N := 9) hx hb hts hinX2 hown hK hP 0 rfl rfl 8 (by decide) (hts (.fieldLink RX2 114 "FeatureStore" "servingCount" "I") (by decide +kernel)) (fun _ h9 => h9) rfl dX2_unsound_6 ?_
      refine nv_ge (tgt := 29) hx hb dX2_unsound_9 (by decide) (by omega) (by omega) (fun c_9 => ?_) (fun c_9 => ?_)
      · have hre : i = s_k σ := by omega
        subst hre
        have hl : lv_has ls 3 [(1, .int (nI (q_uns σ (s_k σ))))] := lv_sub hl [1] rfl
        refine lv_iload_n hx hb dX2_unsound_29 rfl (lv_at hl 0 rfl) ?_
        exact W.iret (v := nI (q_uns σ (s_k σ))) hx hb hr (fun u9 hu9 hW => ⟨nI (q_uns σ (s_k σ)), rfl, rfl, hu9⟩) (fun q h => absurd h List.not_mem_nil) dX2_unsound_30
      · refine lv_aload_n hx hb dX2_unsound_12 rfl (lv_at hl 0 rfl) ?_
        refine lv_iload_n hx hb dX2_unsound_13 rfl (lv_at hl 2 rfl) ?_
        refine vp_callSi (va_Run.run (va_runV (As := [.int (nI i)]) (rest := []) ⟨hx, hb, hml, hown, hts⟩ (c_X2_isSound_ok l dD cI cR cS lo x0 b ra sb hd ol σ hI hX i (by omega)) (cwV 1 hts gX2_unsound_X2_isSound rfl rfl rfl (by decide +kernel) ⟨Nat.le_of_ble_eq_true rfl, Nat.le_of_ble_eq_true rfl⟩) (ePreV hE va_S.rf hP (k := 0) rfl rfl hP) rfl rfl hl.1 rfl (lv_room (Nat.le_of_ble_eq_true rfl)) dX2_unsound_14 ⟨Nat.le_of_ble_eq_true rfl, Nat.le_of_ble_eq_true rfl⟩)) (fun r_14 hr_14 => ?_)
        subst hr_14
        have hz_q : q_snd σ i = 0 ∨ q_snd σ i = 1 := by unfold q_snd; split <;> simp
        refine nv_if_ne (tgt := 23) hx hb dX2_unsound_17 (by decide) (by omega) (fun c_17 => ?_) (fun c_17 => ?_)
        · refine lv_iinc (v := nI (i + 1)) (lv' := [(2, .int (nI (i + 1))), (0, .ref x0), (1, .int (nI (q_uns σ i)))]) hx hb dX2_unsound_23 hl (k := 2) rfl (nv_inc _ 1) (by decide) rfl (fun ls hl => ?_)
          refine lv_goto (tgt := 4) hx hb dX2_unsound_26 (by decide) ?_
          exact ih (i + 1) (by omega) (by omega) ls (by rw [show q_uns σ (i + 1) = q_uns σ i from by simp only [q_uns]; unfold q_snd at c_17; split at c_17 <;> split <;> omega]; exact lv_sub hl [1, 2, 0] rfl)
        · refine lv_iinc (v := nI (q_uns σ i + 1)) (lv' := [(1, .int (nI (q_uns σ i + 1))), (0, .ref x0), (2, .int (nI i))]) hx hb dX2_unsound_20 hl (k := 1) rfl (nv_inc _ 1) (by decide) rfl (fun ls hl => ?_)
          refine lv_iinc (v := nI (i + 1)) (lv' := [(2, .int (nI (i + 1))), (1, .int (nI (q_uns σ i + 1))), (0, .ref x0)]) hx hb dX2_unsound_23 hl (k := 2) rfl (nv_inc _ 1) (by decide) rfl (fun ls hl => ?_)
          refine lv_goto (tgt := 4) hx hb dX2_unsound_26 (by decide) ?_
          exact ih (i + 1) (by omega) (by omega) ls (by rw [show q_uns σ (i + 1) = q_uns σ i + 1 from by simp only [q_uns]; unfold q_snd at c_17; split at c_17 <;> split <;> omega]; exact lv_sub hl [2, 1, 0] rfl)
  exact hlp (s_k σ + 1) 0 (Nat.zero_le _) (by omega) ls (lv_sub hl [2, 1, 0] rfl)


set_option maxHeartbeats 4000000 in
set_option maxRecDepth 100000 in
theorem c_X2_join (l : Launch) (dD : va_G) (cI cR cS : ClassId) (lo : Nat) (hfl : l.stackTraces = false) (x0 : Nat) (b ra sb hd ol : Nat → Nat) (σ : St) (hI : sI σ) (hX : xI σ hd ol) (f e t k : Int32) : vx_Met l yX2_join wsX2_join ({ frames := 8, cells := 4, slots := 24, locals := 125 }) (ePc dD cI cR cS lo [.ref x0, .int f, .int e, .int t, .int k] (fun H => va_P dD vwCl (xW cI cR cS x0 b ra sb hd ol σ) H)) (vp_Si (fun r => (okP f e ∧ rg t 0 10000 ∧ rg k 0 (s_now σ)) ∧ r = eN (q_join σ (plN f e) (cl t) (cl k)))) (eX (fun E => E = nIAE ∧ ¬ (okP f e ∧ rg t 0 10000 ∧ rg k 0 (s_now σ)))) 4 24 (fun _ => False) := by
  refine vx_ofW (cc := cX2_join) (maxL := 5) (ret := (some .int)) (by decide) rfl ?_
  intro p e_ s m args below meth c s₁ B hml hnt hv
  obtain ⟨rfl, hE, hP⟩ := hv
  have hx := B.exec
  have hb := B.bytes
  have hr := B.returns
  have hts := atoms_spec (ws := wsX2_join) B.pre
  have hown : s.vm.findClass RX2 = some m.cls := findClass_of_methodNamed B.named
  have hlocks := B.notSynchronized
  have hK := hE.1.1
  have hinX2 : ∀ w ∈ u_ws RX2 TX2 9, w ∈ wsX2_join := by decide +kernel
  obtain ⟨i_now, i_n, i_tk, i_k, i_lt, i_row, i_cp, i_srv⟩ := id hI
  have hl := lv_entry ([.ref x0, .int f, .int e, .int t, .int k]) (n := 5) (Nat.le_of_ble_eq_true rfl)
  rw [lg_entry_eq]
  generalize (lg_sl ([.ref x0, .int f, .int e, .int t, .int k]) ++ List.replicate (5 - (lg_sl ([.ref x0, .int f, .int e, .int t, .int k])).length) Slot.unset).toArray = ls at hl ⊢
  have hl : lv_has ls 5 [(0, .ref x0), (1, .int f), (2, .int e), (3, .int t), (4, .int k)] := hl
  refine lv_iload_n hx hb dX2_join_0 rfl (lv_at hl 1 rfl) ?_
  refine lv_iload_n hx hb dX2_join_1 rfl (lv_at hl 2 rfl) ?_
  refine nx_callv (vx_runS (As := [.int f, .int e]) (rest := []) ⟨hx, hb, hml, hown, hts⟩ (c_X2_requirePair l dD cI cR cS lo hfl f e) (va_cwS 2 hts gX2_join_X2_requirePair rfl rfl rfl (by decide +kernel) ⟨Nat.le_of_ble_eq_true rfl, Nat.le_of_ble_eq_true rfl⟩) (ePreS hE va_S.rf trivial) rfl rfl hl.1 rfl (lv_room (Nat.le_of_ble_eq_true rfl)) dX2_join_2 ⟨Nat.le_of_ble_eq_true rfl, Nat.le_of_ble_eq_true rfl⟩) (fun E ce q9 H1 hX9 hz9 hk9 hc9 hv9 hf9 => vx_out (fun x hx => (hnt x hx).elim) hlocks hc9 hv9 hf9 (fun t9 ht9 _ => ⟨⟨hX9.1, fun h => hX9.2 (h.1)⟩, by rw [ht9]; exact hz9, fun q hq _ => by rw [ht9]; exact hk9 q hq⟩) (fun z hz => absurd hz List.not_mem_nil) (by decide) (by decide)) (fun hr_2 => ?_)
  refine lv_iload_n hx hb dX2_join_5 rfl (lv_at hl 3 rfl) ?_
  refine lv_iconst (v := nI 0) hx hb dX2_join_6 (by decide +kernel) ?_
  refine lv_sipush (v := nI 10000) hx hb dX2_join_7 (by decide +kernel) ?_
  refine nx_callv (vx_runS (As := [.int t, .int (nI 0), .int (nI 10000)]) (rest := []) ⟨hx, hb, hml, hown, hts⟩ (c_X2_requireRange l dD cI cR cS lo hfl t (nI 0) (nI 10000)) (va_cwS 3 hts gX2_join_X2_requireRange rfl rfl rfl (by decide +kernel) ⟨Nat.le_of_ble_eq_true rfl, Nat.le_of_ble_eq_true rfl⟩) (ePreS hE va_S.rf trivial) rfl rfl hl.1 rfl (lv_room (Nat.le_of_ble_eq_true rfl)) dX2_join_10 ⟨Nat.le_of_ble_eq_true rfl, Nat.le_of_ble_eq_true rfl⟩) (fun E ce q9 H1 hX9 hz9 hk9 hc9 hv9 hf9 => vx_out (fun x hx => (hnt x hx).elim) hlocks hc9 hv9 hf9 (fun t9 ht9 _ => ⟨⟨hX9.1, fun h => hX9.2 (h.2.1)⟩, by rw [ht9]; exact hz9, fun q hq _ => by rw [ht9]; exact hk9 q hq⟩) (fun z hz => absurd hz List.not_mem_nil) (by decide) (by decide)) (fun hr_10 => ?_)
  refine lv_iload hx hb dX2_join_13 (lv_at hl 4 rfl) ?_
  refine lv_iconst (v := nI 0) hx hb dX2_join_15 (by decide +kernel) ?_
  refine lv_aload_n hx hb dX2_join_16 rfl (lv_at hl 0 rfl) ?_
  refine va_get (D := dD) (ci := 2) (v := .int (nI (s_now σ))) (C := RX2) (T := TX2) (N := 9) hx hb hts hinX2 hown hK hP 0 rfl rfl 0 (by decide) (hts (.fieldLink RX2 35 "FeatureStore" "now" "I") (by decide +kernel)) (fun _ h9 => h9) rfl dX2_join_17 ?_
  refine nx_callv (vx_runS (As := [.int k, .int (nI 0), .int (nI (s_now σ))]) (rest := []) ⟨hx, hb, hml, hown, hts⟩ (c_X2_requireRange l dD cI cR cS lo hfl k (nI 0) (nI (s_now σ))) (va_cwS 3 hts gX2_join_X2_requireRange rfl rfl rfl (by decide +kernel) ⟨Nat.le_of_ble_eq_true rfl, Nat.le_of_ble_eq_true rfl⟩) (ePreS hE va_S.rf trivial) rfl rfl hl.1 rfl (lv_room (Nat.le_of_ble_eq_true rfl)) dX2_join_20 ⟨Nat.le_of_ble_eq_true rfl, Nat.le_of_ble_eq_true rfl⟩) (fun E ce q9 H1 hX9 hz9 hk9 hc9 hv9 hf9 => vx_out (fun x hx => (hnt x hx).elim) hlocks hc9 hv9 hf9 (fun t9 ht9 _ => ⟨⟨hX9.1, fun h => hX9.2 (h.2.2)⟩, by rw [ht9]; exact hz9, fun q hq _ => by rw [ht9]; exact hk9 q hq⟩) (fun z hz => absurd hz List.not_mem_nil) (by decide) (by decide)) (fun hr_20 => ?_)
  obtain ⟨fn, hfn1, hfn2, rfl⟩ := rg_of (by decide) (by decide) (hr_2.1)
  obtain ⟨en, hen1, hen2, rfl⟩ := rg_of (by decide) (by decide) (hr_2.2)
  obtain ⟨tn, htn1, htn2, rfl⟩ := rg_of (by decide) (by decide) (hr_10)
  obtain ⟨kn, hkn1, hkn2, rfl⟩ := rg_of (by decide) (by omega) (hr_20)
  refine lv_aload_n hx hb dX2_join_23 rfl (lv_at hl 0 rfl) ?_
  refine lv_iload_n hx hb dX2_join_24 rfl (lv_at hl 1 rfl) ?_
  refine lv_iload_n hx hb dX2_join_25 rfl (lv_at hl 2 rfl) ?_
  refine lv_iload_n hx hb dX2_join_26 rfl (lv_at hl 3 rfl) ?_
  refine lv_iload hx hb dX2_join_27 (lv_at hl 4 rfl) ?_
  refine vp_callSi (va_Run.run (va_runV (As := [.int (nI fn), .int (nI en), .int (nI tn), .int (nI kn)]) (rest := []) ⟨hx, hb, hml, hown, hts⟩ (c_X2_find l dD cI cR cS lo x0 b ra sb hd ol σ hI hX (fn) (en) (tn) (kn) (by omega) (by omega) (by omega) (by omega)) (cwV 4 hts gX2_join_X2_find rfl rfl rfl (by decide +kernel) ⟨Nat.le_of_ble_eq_true rfl, Nat.le_of_ble_eq_true rfl⟩) (ePreV hE va_S.rf hP (k := 0) rfl rfl hP) rfl rfl hl.1 rfl (lv_room (Nat.le_of_ble_eq_true rfl)) dX2_join_29 ⟨Nat.le_of_ble_eq_true rfl, Nat.le_of_ble_eq_true rfl⟩)) (fun r_29 hr_29 => ?_)
  subst hr_29
  exact vx_ret (W.widen (k := 4) (n := 24) (by decide) (by decide) (W.iret (v := eN (q_join σ (10 * fn + en) (tn) (kn))) hx hb hr (fun u9 hu9 hW => ⟨eN (q_join σ (10 * fn + en) (tn) (kn)), rfl, ⟨⟨hr_2, hr_10, hr_20⟩, by rw [plN, cl_nI (by omega), cl_nI (by omega), cl_nI (by omega), cl_nI (by omega)]⟩, hu9⟩) (fun q h => absurd h List.not_mem_nil) dX2_join_32))

set_option maxHeartbeats 4000000 in
set_option maxRecDepth 100000 in
theorem c_X2_online (l : Launch) (dD : va_G) (cI cR cS : ClassId) (lo : Nat) (hfl : l.stackTraces = false) (x0 : Nat) (b ra sb hd ol : Nat → Nat) (σ : St) (hI : sI σ) (f e : Int32) : vx_Met l yX2_online wsX2_online ({ frames := 8, cells := 2, slots := 12, locals := 125 }) (ePc dD cI cR cS lo [.ref x0, .int f, .int e] (fun H => va_P dD vwCl (xW cI cR cS x0 b ra sb hd ol σ) H)) (vp_Si (fun r => okP f e ∧ r = eN (q_fr σ (s_cp σ (plN f e)) (s_now σ)))) (eX (fun E => E = nIAE ∧ ¬ okP f e)) 2 12 (fun _ => False) := by
  refine vx_ofW (cc := cX2_online) (maxL := 3) (ret := (some .int)) (by decide) rfl ?_
  intro p e_ s m args below meth c s₁ B hml hnt hv
  obtain ⟨rfl, hE, hP⟩ := hv
  have hx := B.exec
  have hb := B.bytes
  have hr := B.returns
  have hts := atoms_spec (ws := wsX2_online) B.pre
  have hown : s.vm.findClass RX2 = some m.cls := findClass_of_methodNamed B.named
  have hlocks := B.notSynchronized
  have hK := hE.1.1
  obtain ⟨i_now, i_n, i_tk, i_k, i_lt, i_row, i_cp, i_srv⟩ := id hI
  have hl := lv_entry ([.ref x0, .int f, .int e]) (n := 3) (Nat.le_of_ble_eq_true rfl)
  rw [lg_entry_eq]
  generalize (lg_sl ([.ref x0, .int f, .int e]) ++ List.replicate (3 - (lg_sl ([.ref x0, .int f, .int e])).length) Slot.unset).toArray = ls at hl ⊢
  have hl : lv_has ls 3 [(0, .ref x0), (1, .int f), (2, .int e)] := hl
  refine lv_iload_n hx hb dX2_online_0 rfl (lv_at hl 1 rfl) ?_
  refine lv_iload_n hx hb dX2_online_1 rfl (lv_at hl 2 rfl) ?_
  refine nx_callv (vx_runS (As := [.int f, .int e]) (rest := []) ⟨hx, hb, hml, hown, hts⟩ (c_X2_requirePair l dD cI cR cS lo hfl f e) (va_cwS 2 hts gX2_online_X2_requirePair rfl rfl rfl (by decide +kernel) ⟨Nat.le_of_ble_eq_true rfl, Nat.le_of_ble_eq_true rfl⟩) (ePreS hE va_S.rf trivial) rfl rfl hl.1 rfl (lv_room (Nat.le_of_ble_eq_true rfl)) dX2_online_2 ⟨Nat.le_of_ble_eq_true rfl, Nat.le_of_ble_eq_true rfl⟩) (fun E ce q9 H1 hX9 hz9 hk9 hc9 hv9 hf9 => vx_out (fun x hx => (hnt x hx).elim) hlocks hc9 hv9 hf9 (fun t9 ht9 _ => ⟨⟨hX9.1, fun h => hX9.2 (h)⟩, by rw [ht9]; exact hz9, fun q hq _ => by rw [ht9]; exact hk9 q hq⟩) (fun z hz => absurd hz List.not_mem_nil) (by decide) (by decide)) (fun hr_2 => ?_)
  obtain ⟨fn, hfn1, hfn2, rfl⟩ := rg_of (by decide) (by decide) (hr_2.1)
  obtain ⟨en, hen1, hen2, rfl⟩ := rg_of (by decide) (by decide) (hr_2.2)
  refine lv_aload_n hx hb dX2_online_5 rfl (lv_at hl 0 rfl) ?_
  refine lv_iload_n hx hb dX2_online_6 rfl (lv_at hl 1 rfl) ?_
  refine lv_iload_n hx hb dX2_online_7 rfl (lv_at hl 2 rfl) ?_
  refine vp_callSi (va_Run.run (va_runV (As := [.int (nI fn), .int (nI en)]) (rest := []) ⟨hx, hb, hml, hown, hts⟩ (c_X2_tell l dD cI cR cS lo x0 b ra sb hd ol σ hI (fn) (en) (by omega) (by omega)) (cwV 2 hts gX2_online_X2_tell rfl rfl rfl (by decide +kernel) ⟨Nat.le_of_ble_eq_true rfl, Nat.le_of_ble_eq_true rfl⟩) (ePreV hE va_S.rf hP (k := 0) rfl rfl hP) rfl rfl hl.1 rfl (lv_room (Nat.le_of_ble_eq_true rfl)) dX2_online_8 ⟨Nat.le_of_ble_eq_true rfl, Nat.le_of_ble_eq_true rfl⟩)) (fun r_8 hr_8 => ?_)
  subst hr_8
  exact vx_ret (W.widen (k := 2) (n := 12) (by decide) (by decide) (W.iret (v := eN (q_fr σ (s_cp σ (10 * fn + en)) (s_now σ))) hx hb hr (fun u9 hu9 hW => ⟨eN (q_fr σ (s_cp σ (10 * fn + en)) (s_now σ)), rfl, ⟨hr_2, by rw [plN, cl_nI (by omega), cl_nI (by omega)]⟩, hu9⟩) (fun q h => absurd h List.not_mem_nil) dX2_online_11))
