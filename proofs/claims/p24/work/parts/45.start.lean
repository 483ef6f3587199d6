/-! the law from its entry -/
theorem str_of {args : Array Value} {s : State} {k : Nat} {tx : String} (h1 : (Cond.stringRef RX2 k tx).before args s = true) (h2 : (Cond.exactly (.string RX2 k) "java/lang/String").before args s = true) : ∃ a, vk_R RX2 k tx a s := by
  obtain ⟨a, c, cA, kA, q1, -⟩ := Cond.exactly_spec (args := args) (first := s) (o := none) (s := s) (idx := []) (t := .string RX2 k) (cls := "java/lang/String") h2
  exact ⟨a, vk_R.of h1 q1⟩
set_option maxHeartbeats 4000000 in
set_option maxRecDepth 100000 in
theorem start_E {s : State} {bq : Nat} {dD : va_G} {cI cR cS : ClassId} (hts : ∀ w ∈ lw_tbl, w.before #[Value.ref bq] s = true) (hgv : (Jvm.Cond.and given_1 narrow_1).before #[Value.ref bq] s = true) (hK : va_K dD vwCl [(cI, .int), (cR, .object RX0), (cS, .object RX1)] s) : eE dD cI cR cS s.heap.size s s.heap := by
  have hs := flat_of_before _ hgv
  refine ⟨⟨hK, str_of (hts (.stringRef RX2 49 "there are 200 rows") (by decide +kernel)) (hs (.exactly (.string RX2 49) "java/lang/String") (by decide +kernel)), str_of (hts (.stringRef RX2 64 "now would be above 10000") (by decide +kernel)) (hs (.exactly (.string RX2 64) "java/lang/String") (by decide +kernel)), str_of (hts (.stringRef RX2 117 "there are 200 servings") (by decide +kernel)) (hs (.exactly (.string RX2 117) "java/lang/String") (by decide +kernel)), str_of (hts (.stringRef RX2 144 "an argument is out of range") (by decide +kernel)) (hs (.exactly (.string RX2 144) "java/lang/String") (by decide +kernel)), str_of (hts (.stringRef RX2 149 "there is no such row") (by decide +kernel)) (hs (.exactly (.string RX2 149) "java/lang/String") (by decide +kernel)), str_of (hts (.stringRef RX2 152 "there is no such serving") (by decide +kernel)) (hs (.exactly (.string RX2 152) "java/lang/String") (by decide +kernel)), ?_, ?_⟩, ?_, ?_⟩
  · intro w hw
    have h1 : w ∈ lw_tbl := by
      revert w
      decide +kernel
    exact va_Nw.of (eWs_t w hw) (hts w h1)
  · exact va_Nc.of (hs (.not (.castable nISE nIAE)) (by decide +kernel))
  · exact vx_Zqof (hts _ (by decide +kernel)) (hts (.initialized Bundle.tN) (by decide +kernel)) (hs (.isRef (.static Bundle.tN "UNASSIGNED_STACK" Bundle.steD)) (by decide +kernel)) (fun a ha => Nat.not_le.mpr ha)
  · exact vx_Zqof (hts _ (by decide +kernel)) (hts (.initialized Bundle.tN) (by decide +kernel)) (hs (.isRef (.static Bundle.tN "SUPPRESSED_SENTINEL" Bundle.listD)) (by decide +kernel)) (fun a ha => Nat.not_le.mpr ha)
theorem flags_no {l : Launch} (h : l.flags = flags0) : l.stackTraces = false := by
  unfold Launch.stackTraces
  rw [h]
  decide +kernel

set_option maxHeartbeats 4000000 in
set_option maxRecDepth 100000 in
/-- THE LAW, from its entry -/
theorem whole_start {p : Program} {e : Env} {s : State} {m : MethodId} {below : List Frame} {meth : Method} {c : Code} (l : Launch) (hflags : l.flags = flags0) {b L : Nat} {xs : Nat → Int32} (hL : L ≤ 260) (C0 : lw_At p s m meth c b L xs) : W p l e room_1 s m #[Value.ref b] below meth c s.heap [] 0 0 (lw_Z below #[Value.ref b] s) (entryFrame m ([Value.ref b] : List Value).toArray 14) := by
  have hL0 := hL
  revert hL C0
  generalize b = bq
  intro hL C0
  obtain ⟨hx, hb, hr, hml, hown, hts0, hXs, hbl, hlocks, hgv⟩ := id C0
  have hfl := flags_no hflags
  have hown : s.vm.findClass RL = some m.cls := hown
  have hts : ∀ w ∈ wsL_law, w.before #[Value.ref bq] s = true := fun w h => hts0 w (wsL_law_in w h)
  have hA : ∀ q : Nat, s.heap.size ≤ q → (fun q : Nat => s.heap.size ≤ q) q := fun _ h => h
  obtain ⟨c0, i0, k0⟩ := u_known (C := RX0) (T := TX0) (N := 7) (n := 7) hts0 inX0 (hts0 (.instantiable RX0 7) (by decide +kernel))
  obtain ⟨c1, i1, k1⟩ := u_known (C := RX1) (T := TX1) (N := 4) (n := 4) hts0 inX1 (hts0 (.instantiable RX1 4) (by decide +kernel))
  obtain ⟨c2, i2, k2⟩ := u_known (C := RX2) (T := TX2) (N := 9) (n := 9) hts0 inX2 (hts0 (.instantiable RX2 9) (by decide +kernel))
  obtain ⟨dD, hKc⟩ : ∃ dD : va_G, ∀ (k : Nat) (q : vw_C), vwCl[k]? = some q → u_Kn s q.1 q.2.1 q.2.2 (dD.1 k) (dD.2 k) := by
    refine ⟨(fun k => if k = 0 then c0 else if k = 1 then c1 else c2, fun k => if k = 0 then i0 else if k = 1 then i1 else i2), ?_⟩
    intro k q hq
    match k, hq with
    | 0, hq => cases hq; exact k0
    | 1, hq => cases hq; exact k1
    | 2, hq => cases hq; exact k2
    | k + 3, hq => simp [vwCl] at hq
  have hS : va_S (fun q : Nat => s.heap.size ≤ q) s.heap s.heap [] := va_S.rf
  have hK : va_K dD vwCl [] s := ⟨hKc, fun k q h => by simp at h⟩
  have hP : va_P dD vwCl [] s.heap := fun k q h => by simp at h
  have hD : va_D (fun q : Nat => s.heap.size ≤ q) [] := ⟨fun i j p q h => by simp at h, fun k q h => by simp at h⟩
  have hl := lv_entry ([.ref bq]) (n := 14) (Nat.le_of_ble_eq_true rfl)
  rw [lg_entry_eq]
  generalize (lg_sl ([.ref bq]) ++ List.replicate (14 - (lg_sl ([.ref bq])).length) Slot.unset).toArray = ls at hl ⊢
  have hl : lv_has ls 14 [(0, .ref bq)] := hl
  refine va_new (ci := 2) (fs := [.int 0, .null, .null, .int 0, .null, .null, .int 0, .null, .int 0]) (C := RX2) (T := TX2) (N := 9) hx hb hts inlX2 tyX2 tyX2_ok hown (hts (.classLink RL 9 RX2) (by decide +kernel)) (hts (.instantiable RX2 9) (by decide +kernel)) (hts (.initialized RX2) (by decide +kernel)) hK hP hD hS hA rfl (fun j hj => by rcases (show j = 0 ∨ j = 1 ∨ j = 2 ∨ j = 3 ∨ j = 4 ∨ j = 5 ∨ j = 6 ∨ j = 7 ∨ j = 8 by omega) with rfl | rfl | rfl | rfl | rfl | rfl | rfl | rfl | rfl <;> rfl) (Nat.le_of_ble_eq_true rfl) (Nat.le_of_ble_eq_true rfl) dL_law_0 (fun x0 H hP hD hS => ?_)
  have hP : va_P dD vwCl [(x0, .inr (2, [.int 0, .null, .null, .int 0, .null, .null, .int 0, .null, .int 0]))] H := hP
  have hD : va_D (fun q : Nat => s.heap.size ≤ q) [(x0, .inr (2, [.int 0, .null, .null, .int 0, .null, .null, .int 0, .null, .int 0]))] := hD
  refine lv_dup hx hb dL_law_3 rfl ?_
  have hAH : ∀ q : Nat, H.size ≤ q → s.heap.size ≤ q := fun q h => Nat.le_trans hS.1 h
  have hFc : ∀ q, va_A [(x0, .inr (2, [.int 0, .null, .null, .int 0, .null, .null, .int 0, .null, .int 0]))] H.size q → (fun q : Nat => s.heap.size ≤ q) q := fr_free (w2 := []) (by rw [List.append_nil]; exact hD) hAH
  have hO0 : va_AO RX0 s := va_AO.of (hts0 (.arrayOver (.object RX0)) (by decide +kernel))
  have hO1 : va_AO RX1 s := va_AO.of (hts0 (.arrayOver (.object RX1)) (by decide +kernel))
  refine va_callv (va_runI (As := []) (rest := [.ref x0]) ⟨hx, hb, hml, hown, hts⟩ (c_X2_init l dD H.size x0) (cwI 0 hts gL_law_X2_init rfl rfl rfl (hts (.initialized RX2) (by decide +kernel)) (hts (.methodLink RL 137 yX2_init) (by decide +kernel)) (hts (.instanceMethod yX2_init) (by decide +kernel)) rfl (by decide +kernel) ⟨Nat.le_of_ble_eq_true rfl, Nat.le_of_ble_eq_true rfl⟩) ⟨fun a U g mk q => by obtain ⟨q0, q1, qP, qK, qD, q5, q6⟩ := q; exact ⟨q0, q1, qP, va_K.moved (u := U) (U := U.calling g mk a) (Vm.Alike.refl U.vm) qK, qD, va_AO.moved (u := U) (U := U.calling g mk a) (Vm.Alike.refl U.vm) q5, va_AO.moved (u := U) (U := U.calling g mk a) (Vm.Alike.refl U.vm) q6⟩, fun U hU hW => ⟨rfl, by rw [hU], by rw [hU]; exact hP, va_K.moved hW.alike hK, vD_mono hD (fun _ _ => trivial), va_AO.moved hW.alike hO0, va_AO.moved hW.alike hO1⟩⟩ rfl rfl hl.1 rfl (lv_room (Nat.le_of_ble_eq_true rfl)) dL_law_4 ⟨Nat.le_of_ble_eq_true rfl, Nat.le_of_ble_eq_true rfl⟩) hS (fun q _ h => hFc q h) hFc (fun u_ t_ H1 locs ht_ hvm_ hw_ hB_ hz_ hk_ hS => ?_)
  obtain ⟨b_, cI, cR, cS⟩ := u_
  obtain ⟨hB1, hB2, hB3⟩ := hB_
  have hP : va_P dD vwCl (xW cI cR cS x0 b_ (fun _ => 0) (fun _ => 0) (fun _ => 0) (fun _ => 0) σ_0) H1 := by rw [← ht_]; exact hB1
  have hK : va_K dD vwCl [(cI, .int), (cR, .object RX0), (cS, .object RX1)] s := va_K.moved hvm_.symm hB2
  have hD : va_D (fun q : Nat => s.heap.size ≤ q) (xW cI cR cS x0 b_ (fun _ => 0) (fun _ => 0) (fun _ => 0) (fun _ => 0) σ_0) := vD_mono hB3 hFc
  have hE : eE dD cI cR cS s.heap.size s s.heap := start_E hts0 hgv hK
  refine lv_astore_n (lv' := [(1, .ref x0), (0, .ref bq)]) hx hb dL_law_7 rfl hl (by decide) rfl (fun ls hl => ?_)
  refine lv_bipush (v := nI 60) hx hb dL_law_8 (by decide +kernel) ?_
  refine va_newa (atype := .int) hx hb (hts (.arrayClass .int) (by decide +kernel)) rfl hK hP hD hS hA (n := nI 60) (N' := 60) (a0 := (60, .inl (fun _ => nI 0))) (fun cA => rfl) (by decide +kernel) (by decide +kernel) (Nat.le_of_ble_eq_true rfl) (Nat.le_of_ble_eq_true rfl) (Nat.le_of_ble_eq_true rfl) dL_law_10 (fun q0 cA H hK2 hP hD hS => ?_)
  have hcA : cI = cA := (kEqI (i := 0) (j := 3) hK2 rfl rfl).symm
  subst hcA
  have hP : va_P dD vwCl (xW cI cR cS x0 b_ (fun _ => 0) (fun _ => 0) (fun _ => 0) (fun _ => 0) σ_0 ++ [(q0, .inl (cI, 60, .inl (fun j => nI ((fun _ => 0) j))))]) H := hP
  have hD : va_D (fun q => s.heap.size ≤ q) (xW cI cR cS x0 b_ (fun _ => 0) (fun _ => 0) (fun _ => 0) (fun _ => 0) σ_0 ++ [(q0, .inl (cI, 60, .inl (fun j => nI ((fun _ => 0) j))))]) := hD
  refine lv_astore_n (lv' := [(2, .ref q0), (1, .ref x0), (0, .ref bq)]) hx hb dL_law_12 rfl hl (by decide) rfl (fun ls hl => ?_)
  refine lv_bipush (v := nI 60) hx hb dL_law_13 (by decide +kernel) ?_
  refine va_newa (atype := .int) hx hb (hts (.arrayClass .int) (by decide +kernel)) rfl hK hP hD hS hA (n := nI 60) (N' := 60) (a0 := (60, .inl (fun _ => nI 0))) (fun cA => rfl) (by decide +kernel) (by decide +kernel) (Nat.le_of_ble_eq_true rfl) (Nat.le_of_ble_eq_true rfl) (Nat.le_of_ble_eq_true rfl) dL_law_15 (fun q1 cA H hK2 hP hD hS => ?_)
  have hcA : cI = cA := (kEqI (i := 0) (j := 3) hK2 rfl rfl).symm
  subst hcA
  rw [List.append_assoc] at hP hD
  have hP : va_P dD vwCl (xW cI cR cS x0 b_ (fun _ => 0) (fun _ => 0) (fun _ => 0) (fun _ => 0) σ_0 ++ [(q0, .inl (cI, 60, .inl (fun j => nI ((fun _ => 0) j)))), (q1, .inl (cI, 60, .inl (fun j => nI ((fun _ => 0) j))))]) H := hP
  have hD : va_D (fun q => s.heap.size ≤ q) (xW cI cR cS x0 b_ (fun _ => 0) (fun _ => 0) (fun _ => 0) (fun _ => 0) σ_0 ++ [(q0, .inl (cI, 60, .inl (fun j => nI ((fun _ => 0) j)))), (q1, .inl (cI, 60, .inl (fun j => nI ((fun _ => 0) j))))]) := hD
  refine lv_astore_n (lv' := [(3, .ref q1), (2, .ref q0), (1, .ref x0), (0, .ref bq)]) hx hb dL_law_17 rfl hl (by decide) rfl (fun ls hl => ?_)
  refine lv_bipush (v := nI 60) hx hb dL_law_18 (by decide +kernel) ?_
  refine va_newa (atype := .int) hx hb (hts (.arrayClass .int) (by decide +kernel)) rfl hK hP hD hS hA (n := nI 60) (N' := 60) (a0 := (60, .inl (fun _ => nI 0))) (fun cA => rfl) (by decide +kernel) (by decide +kernel) (Nat.le_of_ble_eq_true rfl) (Nat.le_of_ble_eq_true rfl) (Nat.le_of_ble_eq_true rfl) dL_law_20 (fun q2 cA H hK2 hP hD hS => ?_)
  have hcA : cI = cA := (kEqI (i := 0) (j := 3) hK2 rfl rfl).symm
  subst hcA
  rw [List.append_assoc] at hP hD
  have hP : va_P dD vwCl (xW cI cR cS x0 b_ (fun _ => 0) (fun _ => 0) (fun _ => 0) (fun _ => 0) σ_0 ++ [(q0, .inl (cI, 60, .inl (fun j => nI ((fun _ => 0) j)))), (q1, .inl (cI, 60, .inl (fun j => nI ((fun _ => 0) j)))), (q2, .inl (cI, 60, .inl (fun j => nI ((fun _ => 0) j))))]) H := hP
  have hD : va_D (fun q => s.heap.size ≤ q) (xW cI cR cS x0 b_ (fun _ => 0) (fun _ => 0) (fun _ => 0) (fun _ => 0) σ_0 ++ [(q0, .inl (cI, 60, .inl (fun j => nI ((fun _ => 0) j)))), (q1, .inl (cI, 60, .inl (fun j => nI ((fun _ => 0) j)))), (q2, .inl (cI, 60, .inl (fun j => nI ((fun _ => 0) j))))]) := hD
  refine lv_astore (lv' := [(4, .ref q2), (3, .ref q1), (2, .ref q0), (1, .ref x0), (0, .ref bq)]) hx hb dL_law_22 hl (by decide) rfl (fun ls hl => ?_)
  refine lv_bipush (v := nI 60) hx hb dL_law_24 (by decide +kernel) ?_
  refine va_newa (atype := .int) hx hb (hts (.arrayClass .int) (by decide +kernel)) rfl hK hP hD hS hA (n := nI 60) (N' := 60) (a0 := (60, .inl (fun _ => nI 0))) (fun cA => rfl) (by decide +kernel) (by decide +kernel) (Nat.le_of_ble_eq_true rfl) (Nat.le_of_ble_eq_true rfl) (Nat.le_of_ble_eq_true rfl) dL_law_26 (fun q3 cA H hK2 hP hD hS => ?_)
  have hcA : cI = cA := (kEqI (i := 0) (j := 3) hK2 rfl rfl).symm
  subst hcA
  rw [List.append_assoc] at hP hD
  have hP : va_P dD vwCl (xW cI cR cS x0 b_ (fun _ => 0) (fun _ => 0) (fun _ => 0) (fun _ => 0) σ_0 ++ [(q0, .inl (cI, 60, .inl (fun j => nI ((fun _ => 0) j)))), (q1, .inl (cI, 60, .inl (fun j => nI ((fun _ => 0) j)))), (q2, .inl (cI, 60, .inl (fun j => nI ((fun _ => 0) j)))), (q3, .inl (cI, 60, .inl (fun j => nI ((fun _ => 0) j))))]) H := hP
  have hD : va_D (fun q => s.heap.size ≤ q) (xW cI cR cS x0 b_ (fun _ => 0) (fun _ => 0) (fun _ => 0) (fun _ => 0) σ_0 ++ [(q0, .inl (cI, 60, .inl (fun j => nI ((fun _ => 0) j)))), (q1, .inl (cI, 60, .inl (fun j => nI ((fun _ => 0) j)))), (q2, .inl (cI, 60, .inl (fun j => nI ((fun _ => 0) j)))), (q3, .inl (cI, 60, .inl (fun j => nI ((fun _ => 0) j))))]) := hD
  refine lv_astore (lv' := [(5, .ref q3), (4, .ref q2), (3, .ref q1), (2, .ref q0), (1, .ref x0), (0, .ref bq)]) hx hb dL_law_28 hl (by decide) rfl (fun ls hl => ?_)
  refine lv_bipush (v := nI 6) hx hb dL_law_30 (by decide +kernel) ?_
  refine va_newa (atype := .int) hx hb (hts (.arrayClass .int) (by decide +kernel)) rfl hK hP hD hS hA (n := nI 6) (N' := 6) (a0 := (6, .inl (fun _ => nI 0))) (fun cA => rfl) (by decide +kernel) (by decide +kernel) (Nat.le_of_ble_eq_true rfl) (Nat.le_of_ble_eq_true rfl) (Nat.le_of_ble_eq_true rfl) dL_law_32 (fun q4 cA H hK2 hP hD hS => ?_)
  have hcA : cI = cA := (kEqI (i := 0) (j := 3) hK2 rfl rfl).symm
  subst hcA
  rw [List.append_assoc] at hP hD
  have hP : va_P dD vwCl (xW cI cR cS x0 b_ (fun _ => 0) (fun _ => 0) (fun _ => 0) (fun _ => 0) σ_0 ++ [(q0, .inl (cI, 60, .inl (fun j => nI ((fun _ => 0) j)))), (q1, .inl (cI, 60, .inl (fun j => nI ((fun _ => 0) j)))), (q2, .inl (cI, 60, .inl (fun j => nI ((fun _ => 0) j)))), (q3, .inl (cI, 60, .inl (fun j => nI ((fun _ => 0) j)))), (q4, .inl (cI, 6, .inl (fun j => nI ((fun _ => 0) j))))]) H := hP
  have hD : va_D (fun q => s.heap.size ≤ q) (xW cI cR cS x0 b_ (fun _ => 0) (fun _ => 0) (fun _ => 0) (fun _ => 0) σ_0 ++ [(q0, .inl (cI, 60, .inl (fun j => nI ((fun _ => 0) j)))), (q1, .inl (cI, 60, .inl (fun j => nI ((fun _ => 0) j)))), (q2, .inl (cI, 60, .inl (fun j => nI ((fun _ => 0) j)))), (q3, .inl (cI, 60, .inl (fun j => nI ((fun _ => 0) j)))), (q4, .inl (cI, 6, .inl (fun j => nI ((fun _ => 0) j))))]) := hD
  refine lv_astore (lv' := [(6, .ref q4), (5, .ref q3), (4, .ref q2), (3, .ref q1), (2, .ref q0), (1, .ref x0), (0, .ref bq)]) hx hb dL_law_34 hl (by decide) rfl (fun ls hl => ?_)
  refine lv_bipush (v := nI 60) hx hb dL_law_36 (by decide +kernel) ?_
  refine va_newa (atype := .int) hx hb (hts (.arrayClass .int) (by decide +kernel)) rfl hK hP hD hS hA (n := nI 60) (N' := 60) (a0 := (60, .inl (fun _ => nI 0))) (fun cA => rfl) (by decide +kernel) (by decide +kernel) (Nat.le_of_ble_eq_true rfl) (Nat.le_of_ble_eq_true rfl) (Nat.le_of_ble_eq_true rfl) dL_law_38 (fun q5 cA H hK2 hP hD hS => ?_)
  have hcA : cI = cA := (kEqI (i := 0) (j := 3) hK2 rfl rfl).symm
  subst hcA
  rw [List.append_assoc] at hP hD
  have hP : va_P dD vwCl (xW cI cR cS x0 b_ (fun _ => 0) (fun _ => 0) (fun _ => 0) (fun _ => 0) σ_0 ++ [(q0, .inl (cI, 60, .inl (fun j => nI ((fun _ => 0) j)))), (q1, .inl (cI, 60, .inl (fun j => nI ((fun _ => 0) j)))), (q2, .inl (cI, 60, .inl (fun j => nI ((fun _ => 0) j)))), (q3, .inl (cI, 60, .inl (fun j => nI ((fun _ => 0) j)))), (q4, .inl (cI, 6, .inl (fun j => nI ((fun _ => 0) j)))), (q5, .inl (cI, 60, .inl (fun j => nI ((fun _ => 0) j))))]) H := hP
  have hD : va_D (fun q => s.heap.size ≤ q) (xW cI cR cS x0 b_ (fun _ => 0) (fun _ => 0) (fun _ => 0) (fun _ => 0) σ_0 ++ [(q0, .inl (cI, 60, .inl (fun j => nI ((fun _ => 0) j)))), (q1, .inl (cI, 60, .inl (fun j => nI ((fun _ => 0) j)))), (q2, .inl (cI, 60, .inl (fun j => nI ((fun _ => 0) j)))), (q3, .inl (cI, 60, .inl (fun j => nI ((fun _ => 0) j)))), (q4, .inl (cI, 6, .inl (fun j => nI ((fun _ => 0) j)))), (q5, .inl (cI, 60, .inl (fun j => nI ((fun _ => 0) j))))]) := hD
  refine lv_astore (lv' := [(7, .ref q5), (6, .ref q4), (5, .ref q3), (4, .ref q2), (3, .ref q1), (2, .ref q0), (1, .ref x0), (0, .ref bq)]) hx hb dL_law_40 hl (by decide) rfl (fun ls hl => ?_)
  refine lv_bipush (v := nI 60) hx hb dL_law_42 (by decide +kernel) ?_
  refine va_newa (atype := .int) hx hb (hts (.arrayClass .int) (by decide +kernel)) rfl hK hP hD hS hA (n := nI 60) (N' := 60) (a0 := (60, .inl (fun _ => nI 0))) (fun cA => rfl) (by decide +kernel) (by decide +kernel) (Nat.le_of_ble_eq_true rfl) (Nat.le_of_ble_eq_true rfl) (Nat.le_of_ble_eq_true rfl) dL_law_44 (fun q6 cA H hK2 hP hD hS => ?_)
  have hcA : cI = cA := (kEqI (i := 0) (j := 3) hK2 rfl rfl).symm
  subst hcA
  rw [List.append_assoc] at hP hD
  have hP : va_P dD vwCl (xW cI cR cS x0 b_ (fun _ => 0) (fun _ => 0) (fun _ => 0) (fun _ => 0) σ_0 ++ [(q0, .inl (cI, 60, .inl (fun j => nI ((fun _ => 0) j)))), (q1, .inl (cI, 60, .inl (fun j => nI ((fun _ => 0) j)))), (q2, .inl (cI, 60, .inl (fun j => nI ((fun _ => 0) j)))), (q3, .inl (cI, 60, .inl (fun j => nI ((fun _ => 0) j)))), (q4, .inl (cI, 6, .inl (fun j => nI ((fun _ => 0) j)))), (q5, .inl (cI, 60, .inl (fun j => nI ((fun _ => 0) j)))), (q6, .inl (cI, 60, .inl (fun j => eN ((fun _ => 1) j))))]) H := hP
  have hD : va_D (fun q => s.heap.size ≤ q) (xW cI cR cS x0 b_ (fun _ => 0) (fun _ => 0) (fun _ => 0) (fun _ => 0) σ_0 ++ [(q0, .inl (cI, 60, .inl (fun j => nI ((fun _ => 0) j)))), (q1, .inl (cI, 60, .inl (fun j => nI ((fun _ => 0) j)))), (q2, .inl (cI, 60, .inl (fun j => nI ((fun _ => 0) j)))), (q3, .inl (cI, 60, .inl (fun j => nI ((fun _ => 0) j)))), (q4, .inl (cI, 6, .inl (fun j => nI ((fun _ => 0) j)))), (q5, .inl (cI, 60, .inl (fun j => nI ((fun _ => 0) j)))), (q6, .inl (cI, 60, .inl (fun j => eN ((fun _ => 1) j))))]) := hD
  refine lv_astore (lv' := [(8, .ref q6), (7, .ref q5), (6, .ref q4), (5, .ref q3), (4, .ref q2), (3, .ref q1), (2, .ref q0), (1, .ref x0), (0, .ref bq)]) hx hb dL_law_46 hl (by decide) rfl (fun ls hl => ?_)
  refine lv_iconst (v := nI 4) hx hb dL_law_48 (by decide +kernel) ?_
  refine va_newa (atype := .int) hx hb (hts (.arrayClass .int) (by decide +kernel)) rfl hK hP hD hS hA (n := nI 4) (N' := 4) (a0 := (4, .inl (fun _ => nI 0))) (fun cA => rfl) (by decide +kernel) (by decide +kernel) (Nat.le_of_ble_eq_true rfl) (Nat.le_of_ble_eq_true rfl) (Nat.le_of_ble_eq_true rfl) dL_law_49 (fun q7 cA H hK2 hP hD hS => ?_)
  have hcA : cI = cA := (kEqI (i := 0) (j := 3) hK2 rfl rfl).symm
  subst hcA
  rw [List.append_assoc] at hP hD
  have hP : va_P dD vwCl (xW cI cR cS x0 b_ (fun _ => 0) (fun _ => 0) (fun _ => 0) (fun _ => 0) σ_0 ++ [(q0, .inl (cI, 60, .inl (fun j => nI ((fun _ => 0) j)))), (q1, .inl (cI, 60, .inl (fun j => nI ((fun _ => 0) j)))), (q2, .inl (cI, 60, .inl (fun j => nI ((fun _ => 0) j)))), (q3, .inl (cI, 60, .inl (fun j => nI ((fun _ => 0) j)))), (q4, .inl (cI, 6, .inl (fun j => nI ((fun _ => 0) j)))), (q5, .inl (cI, 60, .inl (fun j => nI ((fun _ => 0) j)))), (q6, .inl (cI, 60, .inl (fun j => eN ((fun _ => 1) j)))), (q7, .inl (cI, 4, .inl (fun j => nI ((fun _ => 0) j))))]) H := hP
  have hD : va_D (fun q => s.heap.size ≤ q) (xW cI cR cS x0 b_ (fun _ => 0) (fun _ => 0) (fun _ => 0) (fun _ => 0) σ_0 ++ [(q0, .inl (cI, 60, .inl (fun j => nI ((fun _ => 0) j)))), (q1, .inl (cI, 60, .inl (fun j => nI ((fun _ => 0) j)))), (q2, .inl (cI, 60, .inl (fun j => nI ((fun _ => 0) j)))), (q3, .inl (cI, 60, .inl (fun j => nI ((fun _ => 0) j)))), (q4, .inl (cI, 6, .inl (fun j => nI ((fun _ => 0) j)))), (q5, .inl (cI, 60, .inl (fun j => nI ((fun _ => 0) j)))), (q6, .inl (cI, 60, .inl (fun j => eN ((fun _ => 1) j)))), (q7, .inl (cI, 4, .inl (fun j => nI ((fun _ => 0) j))))]) := hD
  refine lv_astore (lv' := [(9, .ref q7), (8, .ref q6), (7, .ref q5), (6, .ref q4), (5, .ref q3), (4, .ref q2), (3, .ref q1), (2, .ref q0), (1, .ref x0), (0, .ref bq)]) hx hb dL_law_51 hl (by decide) rfl (fun ls hl => ?_)
  have hP := vP_perm List.perm_append_comm hP
  have hD := vD_perm List.perm_append_comm hD
  rw [show ([(q0, .inl (cI, 60, .inl (fun j => nI ((fun _ => 0) j)))), (q1, .inl (cI, 60, .inl (fun j => nI ((fun _ => 0) j)))), (q2, .inl (cI, 60, .inl (fun j => nI ((fun _ => 0) j)))), (q3, .inl (cI, 60, .inl (fun j => nI ((fun _ => 0) j)))), (q4, .inl (cI, 6, .inl (fun j => nI ((fun _ => 0) j)))), (q5, .inl (cI, 60, .inl (fun j => nI ((fun _ => 0) j)))), (q6, .inl (cI, 60, .inl (fun j => eN ((fun _ => 1) j)))), (q7, .inl (cI, 4, .inl (fun j => nI ((fun _ => 0) j))))] : va_W) = [(q0, .inl (cI, 60, .inl (fun j => nI ((fun _ => 0) j)))), (q1, .inl (cI, 60, .inl (fun j => nI ((fun _ => 0) j)))), (q2, .inl (cI, 60, .inl (fun j => nI ((fun _ => 0) j)))), (q3, .inl (cI, 60, .inl (fun j => nI ((fun _ => 0) j)))), (q4, .inl (cI, 6, .inl (fun j => nI ((lt0 0) j)))), (q5, .inl (cI, 60, .inl (fun j => nI ((fun _ => 0) j)))), (q6, .inl (cI, 60, .inl (fun j => eN ((fun _ => 1) j)))), (q7, .inl (cI, 4, .inl (fun j => nI ((fun _ => 0) j))))] by rw [lt0_zero]] at hP hD
  have hE : eE dD cI cR cS s.heap.size s s.heap := hE
  refine lv_iconst (v := nI 0) hx hb dL_law_53 (by decide +kernel) ?_
  refine lv_istore (lv' := [(10, .int (nI 0)), (9, .ref q7), (8, .ref q6), (7, .ref q5), (6, .ref q4), (5, .ref q3), (4, .ref q2), (3, .ref q1), (2, .ref q0), (1, .ref x0), (0, .ref bq)]) hx hb dL_law_54 hl (by decide) rfl (fun ls hl => ?_)
  have lp_56 : ∀ (d k : Nat), k ≤ 6 → 6 < k + d → ∀ (H : Heap) (locs : List Loc), va_P dD vwCl ([(q0, .inl (cI, 60, .inl (fun j => nI ((fun _ => 0) j)))), (q1, .inl (cI, 60, .inl (fun j => nI ((fun _ => 0) j)))), (q2, .inl (cI, 60, .inl (fun j => nI ((fun _ => 0) j)))), (q3, .inl (cI, 60, .inl (fun j => nI ((fun _ => 0) j)))), (q4, .inl (cI, 6, .inl (fun j => nI ((lt0 k) j)))), (q5, .inl (cI, 60, .inl (fun j => nI ((fun _ => 0) j)))), (q6, .inl (cI, 60, .inl (fun j => eN ((fun _ => 1) j)))), (q7, .inl (cI, 4, .inl (fun j => nI ((fun _ => 0) j))))] ++ xW cI cR cS x0 b_ (fun _ => 0) (fun _ => 0) (fun _ => 0) (fun _ => 0) σ_0) H → va_D (fun q => s.heap.size ≤ q) ([(q0, .inl (cI, 60, .inl (fun j => nI ((fun _ => 0) j)))), (q1, .inl (cI, 60, .inl (fun j => nI ((fun _ => 0) j)))), (q2, .inl (cI, 60, .inl (fun j => nI ((fun _ => 0) j)))), (q3, .inl (cI, 60, .inl (fun j => nI ((fun _ => 0) j)))), (q4, .inl (cI, 6, .inl (fun j => nI ((lt0 k) j)))), (q5, .inl (cI, 60, .inl (fun j => nI ((fun _ => 0) j)))), (q6, .inl (cI, 60, .inl (fun j => eN ((fun _ => 1) j)))), (q7, .inl (cI, 4, .inl (fun j => nI ((fun _ => 0) j))))] ++ xW cI cR cS x0 b_ (fun _ => 0) (fun _ => 0) (fun _ => 0) (fun _ => 0) σ_0) → va_S (fun q => s.heap.size ≤ q) s.heap H locs → ∀ (ls : Array Slot), lv_has ls 14 [(0, .ref bq), (1, .ref x0), (2, .ref q0), (3, .ref q1), (4, .ref q2), (5, .ref q3), (6, .ref q4), (7, .ref q5), (8, .ref q6), (9, .ref q7), (10, .int (nI k))] → W p l e room_1 s m #[Value.ref bq] below meth c H locs (0 + 1 + 5 + 8) (0 + 9 + 526 + 370) (lw_Z below #[Value.ref bq] s) (F0 m 56 ls []) := by
    intro d
    induction d with
    | zero =>
      intro k h1 h2
      exact absurd h2 (by omega)
    | succ d ih =>
      intro k h1 h2 H locs hP hD hS ls hl
      refine lv_iload hx hb dL_law_56 (lv_at hl 10 rfl) ?_
      refine lv_bipush (v := nI 6) hx hb dL_law_58 (by decide +kernel) ?_
      refine nv_ge (tgt := 77) hx hb dL_law_60 (by decide) (by omega) (by omega) (fun c_60 => ?_) (fun c_60 => ?_)
      · have hk6 : k = 6 := by omega
        subst hk6
        obtain ⟨la, hla⟩ : ∃ la : Nat → Nat, la = fun k => [q0, q1, q2, q3, q4, q5, q6, q7].getD k 0 := ⟨_, rfl⟩
        have eW : lW cI la σ_0 = [(q0, .inl (cI, 60, .inl (fun j => nI ((fun _ => 0) j)))), (q1, .inl (cI, 60, .inl (fun j => nI ((fun _ => 0) j)))), (q2, .inl (cI, 60, .inl (fun j => nI ((fun _ => 0) j)))), (q3, .inl (cI, 60, .inl (fun j => nI ((fun _ => 0) j)))), (q4, .inl (cI, 6, .inl (fun j => nI ((lt0 6) j)))), (q5, .inl (cI, 60, .inl (fun j => nI ((fun _ => 0) j)))), (q6, .inl (cI, 60, .inl (fun j => eN ((fun _ => 1) j)))), (q7, .inl (cI, 4, .inl (fun j => nI ((fun _ => 0) j))))] := by
          show ([(la 0, .inl (cI, 60, .inl (fun j => nI (l_p σ_0 j)))), (la 1, .inl (cI, 60, .inl (fun j => nI (s_ev σ_0 j)))), (la 2, .inl (cI, 60, .inl (fun j => nI (s_ar σ_0 j)))), (la 3, .inl (cI, 60, .inl (fun j => nI (s_vl σ_0 j)))), (la 4, .inl (cI, 6, .inl (fun j => nI (s_lt σ_0 j)))), (la 5, .inl (cI, 60, .inl (fun j => nI (l_q σ_0 j)))), (la 6, .inl (cI, 60, .inl (fun j => eN (s_sv σ_0 j)))), (la 7, .inl (cI, 4, .inl (fun j => nI (l_g σ_0 j))))] : va_W) = _
          rw [l_p_0, s_ev_0, s_ar_0, s_vl_0, s_lt_0, l_q_0, s_sv_0, l_g_0, hla] <;> rfl
        rw [← eW] at hP hD
        have hl : lv_has ls 14 [(0, .ref bq), (1, .ref x0), (2, .ref (la 0)), (3, .ref (la 1)), (4, .ref (la 2)), (5, .ref (la 3)), (6, .ref (la 4)), (7, .ref (la 5)), (8, .ref (la 6)), (9, .ref (la 7)), (10, .int (nI 6))] := by rw [hla]; exact lv_sub hl [0, 1, 2, 3, 4, 5, 6, 7, 8, 9, 10] rfl
        have hI := sI_0
        have hX := xI_0
        have hL := lI_0
        refine lv_aload_n hx hb dL_law_77 rfl (lv_at hl 1 rfl) ?_
        refine lv_iconst (v := nI 0) hx hb dL_law_78 (by decide +kernel) ?_
        refine lv_iconst (v := nI 0) hx hb dL_law_79 (by decide +kernel) ?_
        refine lv_aload_n hx hb dL_law_80 rfl (lv_at hl 2 rfl) ?_
        refine lv_aload_n hx hb dL_law_81 rfl (lv_at hl 3 rfl) ?_
        refine lv_aload hx hb dL_law_82 (lv_at hl 4 rfl) ?_
        refine lv_aload hx hb dL_law_84 (lv_at hl 5 rfl) ?_
        refine lv_aload hx hb dL_law_86 (lv_at hl 6 rfl) ?_
        refine lv_aload hx hb dL_law_88 (lv_at hl 7 rfl) ?_
        refine lv_aload hx hb dL_law_90 (lv_at hl 8 rfl) ?_
        refine lv_aload hx hb dL_law_92 (lv_at hl 9 rfl) ?_
        refine nx_callKv (v := nI 1) (va_runS (As := [.ref x0, .int (nI 0), .int (nI 0), .ref (la 0), .ref (la 1), .ref (la 2), .ref (la 3), .ref (la 4), .ref (la 5), .ref (la 6), .ref (la 7)]) (rest := []) ⟨hx, hb, hml, hown, hts⟩ (c_L_isTold l dD cI cR cS s.heap.size hfl la x0 b_ (fun _ => 0) (fun _ => 0) (fun _ => 0) (fun _ => 0) σ_0 hI hX hL (nI 0) (nI 0)) (va_cwS 11 hts gL_law_L_isTold rfl rfl rfl (by decide +kernel) ⟨Nat.le_of_ble_eq_true rfl, Nat.le_of_ble_eq_true rfl⟩) (ePreS hE hS hP) rfl rfl hl.1 rfl (lv_room (Nat.le_of_ble_eq_true rfl)) dL_law_94 ⟨by show 0 + 1 + 5 + 8 + 500 ≤ 669080; omega, by show 0 + 9 + 526 + 370 + 3000 ≤ 7094384; omega⟩) (fun r h => h) (fun H1 hk_94 => ?_)
        have hP := hk_94.P hP
        have hS := hk_94.up hS
        refine nv_if_ne (tgt := 102) hx hb dL_law_97 (by decide) (by decide) (fun c_97 => ?_) (fun c_97 => absurd c_97 (by decide))
        refine lv_iconst (v := nI 0) hx hb dL_law_102 (by decide +kernel) ?_
        refine lv_istore (lv' := [(10, .int (nI 0)), (0, .ref bq), (1, .ref x0), (2, .ref (la 0)), (3, .ref (la 1)), (4, .ref (la 2)), (5, .ref (la 3)), (6, .ref (la 4)), (7, .ref (la 5)), (8, .ref (la 6)), (9, .ref (la 7))]) hx hb dL_law_103 hl (by decide) rfl (fun ls hl => ?_)
        refine W.widen (k := 600 + 560 * 0) (n := 5000 + 3400 * 0) (by decide) (by decide) ?_
        exact law_loop hL0 C0 hfl hE 101 0 (by decide) (by decide) (σ_0, fun _ => 0, fun _ => 0, fun _ => 0, fun _ => 0) _ _ ⟨sI_0, xI_0, xJ_0, lI_0⟩ hP hD hS ls (lv_sub hl [1, 2, 3, 4, 5, 6, 7, 8, 9, 10, 0] rfl)
      · refine lv_aload hx hb dL_law_63 (lv_at hl 6 rfl) ?_
        refine lv_iload hx hb dL_law_65 (lv_at hl 10 rfl) ?_
        refine lv_sipush (v := nI 10000) hx hb dL_law_67 (by decide +kernel) ?_
        refine nv_iast (q0 := 4) (t0 := 0) (lt0 k) hx hb hK hP hD hS rfl rfl (by omega) (by decide) dL_law_70 (fun H locs hP hD hS => ?_)
        have hP : va_P dD vwCl ([(q0, .inl (cI, 60, .inl (fun j => nI ((fun _ => 0) j)))), (q1, .inl (cI, 60, .inl (fun j => nI ((fun _ => 0) j)))), (q2, .inl (cI, 60, .inl (fun j => nI ((fun _ => 0) j)))), (q3, .inl (cI, 60, .inl (fun j => nI ((fun _ => 0) j)))), (q4, .inl (cI, 6, .inl (fun j => nI ((uN (lt0 k) k 10000) j)))), (q5, .inl (cI, 60, .inl (fun j => nI ((fun _ => 0) j)))), (q6, .inl (cI, 60, .inl (fun j => eN ((fun _ => 1) j)))), (q7, .inl (cI, 4, .inl (fun j => nI ((fun _ => 0) j))))] ++ xW cI cR cS x0 b_ (fun _ => 0) (fun _ => 0) (fun _ => 0) (fun _ => 0) σ_0) H := hP
        have hD : va_D (fun q => s.heap.size ≤ q) ([(q0, .inl (cI, 60, .inl (fun j => nI ((fun _ => 0) j)))), (q1, .inl (cI, 60, .inl (fun j => nI ((fun _ => 0) j)))), (q2, .inl (cI, 60, .inl (fun j => nI ((fun _ => 0) j)))), (q3, .inl (cI, 60, .inl (fun j => nI ((fun _ => 0) j)))), (q4, .inl (cI, 6, .inl (fun j => nI ((uN (lt0 k) k 10000) j)))), (q5, .inl (cI, 60, .inl (fun j => nI ((fun _ => 0) j)))), (q6, .inl (cI, 60, .inl (fun j => eN ((fun _ => 1) j)))), (q7, .inl (cI, 4, .inl (fun j => nI ((fun _ => 0) j))))] ++ xW cI cR cS x0 b_ (fun _ => 0) (fun _ => 0) (fun _ => 0) (fun _ => 0) σ_0) := hD
        refine lv_iinc (v := nI (k + 1)) (lv' := [(10, .int (nI (k + 1))), (0, .ref bq), (1, .ref x0), (2, .ref q0), (3, .ref q1), (4, .ref q2), (5, .ref q3), (6, .ref q4), (7, .ref q5), (8, .ref q6), (9, .ref q7)]) hx hb dL_law_71 hl (k := 10) rfl (nv_inc _ 1) (by decide) rfl (fun ls hl => ?_)
        refine lv_goto (tgt := 56) hx hb dL_law_74 (by decide) ?_
        exact ih (k + 1) (by omega) (by omega) _ _ (by rw [← lt0_step]; exact hP) (by rw [← lt0_step]; exact hD) hS ls (lv_sub hl [1, 2, 3, 4, 5, 6, 7, 8, 9, 10, 0] rfl)
  exact lp_56 7 0 (by decide) (by decide) _ _ hP hD hS ls (lv_sub hl [10, 9, 8, 7, 6, 5, 4, 3, 2, 1, 0] rfl)
