/-! the law from its entry -/
theorem str_of {args : Array Value} {s : State} {k : Nat} {tx : String} (h1 : (Cond.stringRef RX2 k tx).before args s = true) (h2 : (Cond.exactly (.string RX2 k) "java/lang/String").before args s = true) : ∃ a, vk_R RX2 k tx a s := by
  obtain ⟨a, c, cA, kA, q1, -⟩ := Cond.exactly_spec (args := args) (first := s) (o := none) (s := s) (idx := []) (t := .string RX2 k) (cls := "java/lang/String") h2
  exact ⟨a, vk_R.of h1 q1⟩
theorem start_perm {x1 : Nat × va_E} {w1 w2 : va_W} : List.Perm (α := Nat × va_E) ((w1 ++ w2) ++ [x1]) ((x1 :: w1) ++ w2) := by
  show List.Perm ((w1 ++ w2) ++ [x1]) (x1 :: (w1 ++ w2))
  exact List.perm_append_comm
set_option maxHeartbeats 4000000 in
set_option maxRecDepth 100000 in
theorem start_E {s : State} {bq : Nat} {dD : va_G} {cI cR cS : ClassId} (hts : ∀ w ∈ lw_tbl, w.before #[Value.ref bq] s = true) (hgv : (Jvm.Cond.and given_1 narrow_1).before #[Value.ref bq] s = true) (hK : va_K dD vwCl [(cI, .int), (cR, .object RX0), (cS, .object RX1)] s) : eE dD cI cR cS s.heap.size s s.heap := by
  have hs := flat_of_before _ hgv
  refine ⟨⟨hK, str_of (hts (.stringRef RX2 49 "there are 200 rows") (by decide +kernel)) (hs (.exactly (.string RX2 49) "java/lang/String") (by decide +kernel)), str_of (hts (.stringRef RX2 64 "now would be above 10000") (by decide +kernel)) (hs (.exactly (.string RX2 64) "java/lang/String") (by decide +kernel)), str_of (hts (.stringRef RX2 117 "there are 200 servings") (by decide +kernel)) (hs (.exactly (.string RX2 117) "java/lang/String") (by decide +kernel)), str_of (hts (.stringRef RX2 144 "an argument is out of range") (by decide +kernel)) (hs (.exactly (.string RX2 144) "java/lang/String") (by decide +kernel)), str_of (hts (.stringRef RX2 149 "there is no such row") (by decide +kernel)) (hs (.exactly (.string RX2 149) "java/lang/String") (by decide +kernel)), str_of (hts (.stringRef RX2 152 "there is no such serving") (by decide +kernel)) (hs (.exactly (.string RX2 152) "java/lang/String") (by decide +kernel)), ?_, ?_⟩, ?_, ?_⟩
  · intro w hw
    have h1 : w ∈ lw_tbl := by
      revert w
      decide +kernel
    exact va_Nw.of (eWs_t w hw) (hts w h1)
  · exact va_Nc.of (hs (.not (.castable nISE nIAE)) (by decide +kernel))
  · exact vx_Zqof (hts _ (by decide +kernel)) (hts (.initialized Bundle.tN) (by decide +kernel)) (hs (.isRef (.static Bundle.tN "UNASSIGNED_STACK" Bundle.steD)) (by decide +kernel)) (fun a ha => Nat.not_le.mpr ha)
  · exact vx_Zqof (hts _ (by decide +kernel)) (hts (.initialized Bundle.tN) (by decide +kernel)) (hs (.isRef (.static Bundle.tN "SUPPRESSED_SENTINEL" Bundle.listD)) (by decide +kernel)) (fun a ha => Nat.not_le.mpr ha)
theorem flags_no {l : Launch} (h : l.flags = flags0) : l.stackTraces = false := by
  unfold Launch.stackTraces
  rw [h]
  decide +kernel
set_option maxHeartbeats 4000000 in
set_option maxRecDepth 100000 in
/-- THE LAW, from its entry -/
theorem whole_start {p : Program} {e : Env} {s : State} {m : MethodId} {below : List Frame} {meth : Method} {c : Code} (l : Launch) (hflags : l.flags = flags0) {b L : Nat} {xs : Nat → Int32} (hL : L ≤ 2560) (C0 : lw_At p s m meth c b L xs) : W p l e room_1 s m #[Value.ref b] below meth c s.heap [] 0 0 (lw_Z below #[Value.ref b] s) (entryFrame m ([Value.ref b] : List Value).toArray 7) := by
  obtain ⟨hx, hb, hr, hml, hown, hts0, hXs, hbl, hlocks, hgv⟩ := id C0
  have hfl := flags_no hflags
  have hown : s.vm.findClass RL = some m.cls := hown
  have hts : ∀ w ∈ wsL_law, w.before #[Value.ref b] s = true := fun w h => hts0 w (wsL_law_in w h)
  have hA : ∀ q : Nat, s.heap.size ≤ q → (fun q : Nat => s.heap.size ≤ q) q := fun _ h => h
  obtain ⟨c0, i0, k0⟩ := u_known (C := RX0) (T := TX0) (N := 7) (n := 7) hts0 inX0 (hts0 (.instantiable RX0 7) (by decide +kernel))
  obtain ⟨c1, i1, k1⟩ := u_known (C := RX1) (T := TX1) (N := 4) (n := 4) hts0 inX1 (hts0 (.instantiable RX1 4) (by decide +kernel))
  obtain ⟨c2, i2, k2⟩ := u_known (C := RX2) (T := TX2) (N := 9) (n := 9) hts0 inX2 (hts0 (.instantiable RX2 9) (by decide +kernel))
  obtain ⟨c3, i3, k3⟩ := u_known (C := RX3) (T := TX3) (N := 14) (n := 14) hts0 inX3 (hts0 (.instantiable RX3 14) (by decide +kernel))
  obtain ⟨dD, hKc⟩ : ∃ dD : va_G, ∀ (k : Nat) (q : vw_C), vwCl[k]? = some q → u_Kn s q.1 q.2.1 q.2.2 (dD.1 k) (dD.2 k) := by
    refine ⟨(fun k => if k = 0 then c0 else if k = 1 then c1 else if k = 2 then c2 else c3, fun k => if k = 0 then i0 else if k = 1 then i1 else if k = 2 then i2 else i3), ?_⟩
    intro k q hq
    match k, hq with
    | 0, hq => cases hq; exact k0
    | 1, hq => cases hq; exact k1
    | 2, hq => cases hq; exact k2
    | 3, hq => cases hq; exact k3
    | k + 4, hq => simp [vwCl] at hq
  have hS : va_S (fun q : Nat => s.heap.size ≤ q) s.heap s.heap [] := va_S.rf
  have hK : va_K dD vwCl [] s := ⟨hKc, fun k q h => by simp at h⟩
  have hP : va_P dD vwCl [] s.heap := fun k q h => by simp at h
  have hD : va_D (fun q : Nat => s.heap.size ≤ q) [] := ⟨fun i j p q h => by simp at h, fun k q h => by simp at h⟩
  have hl := lv_entry ([.ref b]) (n := 7) (Nat.le_of_ble_eq_true rfl)
  rw [lg_entry_eq]
  generalize (lg_sl ([.ref b]) ++ List.replicate (7 - (lg_sl ([.ref b])).length) Slot.unset).toArray = ls at hl ⊢
  have hl : lv_has ls 7 [(0, .ref b)] := hl
  refine va_new (ci := 2) (fs := [.int 0, .null, .null, .int 0, .null, .null, .int 0, .null, .int 0]) (C := RX2) (T := TX2) (N := 9) hx hb hts inlX2 tyX2 tyX2_ok hown (hts (.classLink RL 8 RX2) (by decide +kernel)) (hts (.instantiable RX2 9) (by decide +kernel)) (hts (.initialized RX2) (by decide +kernel)) hK hP hD hS hA rfl (fun j hj => by rcases (show j = 0 ∨ j = 1 ∨ j = 2 ∨ j = 3 ∨ j = 4 ∨ j = 5 ∨ j = 6 ∨ j = 7 ∨ j = 8 by omega) with rfl | rfl | rfl | rfl | rfl | rfl | rfl | rfl | rfl <;> rfl) (Nat.le_of_ble_eq_true rfl) (Nat.le_of_ble_eq_true rfl) dL_law_0 (fun x0 H hP hD hS => ?_)
  have hP : va_P dD vwCl [(x0, .inr (2, [.int 0, .null, .null, .int 0, .null, .null, .int 0, .null, .int 0]))] H := hP
  have hD : va_D (fun q : Nat => s.heap.size ≤ q) [(x0, .inr (2, [.int 0, .null, .null, .int 0, .null, .null, .int 0, .null, .int 0]))] := hD
  refine lv_dup hx hb dL_law_3 rfl ?_
  have hAH : ∀ q : Nat, H.size ≤ q → s.heap.size ≤ q := fun q h => Nat.le_trans hS.1 h
  have hFc : ∀ q, va_A [(x0, .inr (2, [.int 0, .null, .null, .int 0, .null, .null, .int 0, .null, .int 0]))] H.size q → (fun q : Nat => s.heap.size ≤ q) q := fr_free (w2 := []) (by rw [List.append_nil]; exact hD) hAH
  have hO0 : va_AO RX0 s := va_AO.of (hts0 (.arrayOver (.object RX0)) (by decide +kernel))
  have hO1 : va_AO RX1 s := va_AO.of (hts0 (.arrayOver (.object RX1)) (by decide +kernel))
  refine va_callv (va_runI (As := []) (rest := [.ref x0]) ⟨hx, hb, hml, hown, hts⟩ (c_X2_init l dD H.size x0) (cwI 0 hts gL_law_X2_init rfl rfl rfl (hts (.initialized RX2) (by decide +kernel)) (hts (.methodLink RL 65 yX2_init) (by decide +kernel)) (hts (.instanceMethod yX2_init) (by decide +kernel)) rfl (by decide +kernel) ⟨Nat.le_of_ble_eq_true rfl, Nat.le_of_ble_eq_true rfl⟩) ⟨fun a U g mk q => by obtain ⟨q0, q1, qP, qK, qD, q5, q6⟩ := q; exact ⟨q0, q1, qP, va_K.moved (u := U) (U := U.calling g mk a) (Vm.Alike.refl U.vm) qK, qD, va_AO.moved (u := U) (U := U.calling g mk a) (Vm.Alike.refl U.vm) q5, va_AO.moved (u := U) (U := U.calling g mk a) (Vm.Alike.refl U.vm) q6⟩, fun U hU hW => ⟨rfl, by rw [hU], by rw [hU]; exact hP, va_K.moved hW.alike hK, vD_mono hD (fun _ _ => trivial), va_AO.moved hW.alike hO0, va_AO.moved hW.alike hO1⟩⟩ rfl rfl hl.1 rfl (lv_room (Nat.le_of_ble_eq_true rfl)) dL_law_4 ⟨Nat.le_of_ble_eq_true rfl, Nat.le_of_ble_eq_true rfl⟩) hS (fun q _ h => hFc q h) hFc (fun u_ t_ H1 locs ht_ hvm_ hw_ hB_ hz_ hk_ hS => ?_)
  obtain ⟨b_, cI, cR, cS⟩ := u_
  obtain ⟨hB1, hB2, hB3⟩ := hB_
  have hP : va_P dD vwCl (xW cI cR cS x0 b_ (fun _ => 0) (fun _ => 0) (fun _ => 0) (fun _ => 0) σ_0) H1 := by rw [← ht_]; exact hB1
  have hK : va_K dD vwCl [(cI, .int), (cR, .object RX0), (cS, .object RX1)] s := va_K.moved hvm_.symm hB2
  have hD : va_D (fun q : Nat => s.heap.size ≤ q) (xW cI cR cS x0 b_ (fun _ => 0) (fun _ => 0) (fun _ => 0) (fun _ => 0) σ_0) := vD_mono hB3 hFc
  have hE : eE dD cI cR cS s.heap.size s s.heap := start_E hts0 hgv hK
  refine lv_astore_n (lv' := [(1, .ref x0), (0, .ref b)]) hx hb dL_law_7 rfl hl (by decide) rfl (fun ls hl => ?_)
  refine va_new (ci := 3) (fs := [.int 0, .int 0, .null, .int 0, .null, .null, .null, .null, .int 0, .null, .int 0, .null, .null, .null]) (C := RX3) (T := TX3) (N := 14) hx hb hts inlX3 tyX3 tyX3_ok hown (hts (.classLink RL 66 RX3) (by decide +kernel)) (hts (.instantiable RX3 14) (by decide +kernel)) (hts (.initialized RX3) (by decide +kernel)) hK hP hD hS hA rfl (fun j hj => by rcases (show j = 0 ∨ j = 1 ∨ j = 2 ∨ j = 3 ∨ j = 4 ∨ j = 5 ∨ j = 6 ∨ j = 7 ∨ j = 8 ∨ j = 9 ∨ j = 10 ∨ j = 11 ∨ j = 12 ∨ j = 13 by omega) with rfl | rfl | rfl | rfl | rfl | rfl | rfl | rfl | rfl | rfl | rfl | rfl | rfl | rfl <;> rfl) (Nat.le_of_ble_eq_true rfl) (Nat.le_of_ble_eq_true rfl) dL_law_8 (fun m0 H hP hD hS => ?_)
  refine lv_dup hx hb dL_law_11 rfl ?_
  have hAH : ∀ q : Nat, H.size ≤ q → s.heap.size ≤ q := fun q h => Nat.le_trans hS.1 h
  have hFc := fr_freeR (w1 := [(m0, .inr (3, [.int 0, .int 0, .null, .int 0, .null, .null, .null, .null, .int 0, .null, .int 0, .null, .null, .null]))]) hD hAH
  refine va_callv (va_runI (As := []) (rest := [.ref m0]) ⟨hx, hb, hml, hown, hts⟩ (c_X3_init l dD cI cR cS s.heap.size H.size m0) (cwI 0 hts gL_law_X3_init rfl rfl rfl (hts (.initialized RX3) (by decide +kernel)) (hts (.methodLink RL 68 yX3_init) (by decide +kernel)) (hts (.instanceMethod yX3_init) (by decide +kernel)) rfl (by decide +kernel) ⟨Nat.le_of_ble_eq_true rfl, Nat.le_of_ble_eq_true rfl⟩) (ePreS hE hS ⟨rfl, vP_app2 hP, vD_mono (vD_app2 hD) (fun _ _ => trivial)⟩) rfl rfl hl.1 rfl (lv_room (Nat.le_of_ble_eq_true rfl)) dL_law_12 ⟨Nat.le_of_ble_eq_true rfl, Nat.le_of_ble_eq_true rfl⟩) hS (fun q _ h => hFc q h) hFc (fun a_ t_ H1 locs ht_ hvm_ hw_ hB_ hz_ hk_ hS => ?_)
  obtain ⟨hP, hD⟩ := fr_joinR (w1' := mW cI m0 a_ 0 σ_0) hP hD hAH hk_ (by rw [← ht_]; exact hB_.1) hB_.2
  refine lv_astore_n (lv' := [(2, .ref m0), (1, .ref x0), (0, .ref b)]) hx hb dL_law_15 rfl hl (by decide) rfl (fun ls hl => ?_)
  refine lv_iconst (v := nI 1) hx hb dL_law_16 (by decide +kernel) ?_
  refine va_newa (atype := .long) hx hb (hts (.arrayClass .long) (by decide +kernel)) rfl hK hP hD hS hA (n := nI 1) (N' := 1) (a0 := (1, .inr (.inl (fun _ => 0)))) (fun cA => rfl) (by decide +kernel) (by decide +kernel) (Nat.le_of_ble_eq_true rfl) (Nat.le_of_ble_eq_true rfl) (Nat.le_of_ble_eq_true rfl) dL_law_17 (fun o0 cL H hK2 hP hD hS => ?_)
  have hKL : va_K dD vwCl [(cL, .long)] s := hK2.sub [3] rfl
  refine lv_astore_n (lv' := [(3, .ref o0), (2, .ref m0), (1, .ref x0), (0, .ref b)]) hx hb dL_law_19 rfl hl (by decide) rfl (fun ls hl => ?_)
  refine lv_iconst (v := nI 0) hx hb dL_law_20 (by decide +kernel) ?_
  refine lv_istore (lv' := [(4, .int (nI 0)), (3, .ref o0), (2, .ref m0), (1, .ref x0), (0, .ref b)]) hx hb dL_law_21 hl (by decide) rfl (fun ls hl => ?_)
  refine W.widen (k := 100 + 8 * 0) (n := 3000 + 64 * 0) (by decide) (by decide) ?_
  exact law_loop hL C0 hfl hE hKL (L + 1) 0 (Nat.zero_le _) (by omega) (σ_0, fun _ => 0, fun _ => 0, fun _ => 0, fun _ => 0, fun _ => 0) 0 H _ ⟨sI_0, xI_0, xJ_0⟩ (vP_perm start_perm hP) (vD_perm start_perm hD) hS ls (lv_sub hl [4, 3, 2, 1, 0] rfl)
