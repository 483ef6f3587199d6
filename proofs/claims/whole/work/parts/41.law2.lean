/-! the law's cases (laid by wip/whole/gen/lawcases.py) -/
set_option maxHeartbeats 4000000 in
set_option maxRecDepth 100000 in
theorem law_late {p : Program} {l : Launch} {e_ : Env} {s : State} {m : MethodId} {below : List Frame} {meth : Method} {c : Code} {bq L : Nat} {xs : Nat → Int32} (hL : L ≤ 2560) (C0 : lw_At p s m meth c bq L xs) (hfl : l.stackTraces = false) {dD : va_G} {cI cR cS cL : ClassId} (hE : eE dD cI cR cS s.heap.size s s.heap) (hKL : va_K dD vwCl [(cL, .long)] s) {x0 m0 o0 : Nat} {b a : Nat → Nat} {j : Nat} (hj : 5 * j + 5 ≤ L) (hn : lS p l e_ s m below meth c bq dD cI cR cS cL x0 m0 o0 b a j (108 + 8 * j) (3064 + 64 * j) 1277) : lS p l e_ s m below meth c bq dD cI cR cS cL x0 m0 o0 b a j (100 + 8 * j) (3000 + 64 * j) 434 := by
  obtain ⟨hx, hb, -, hml, hown, hts, hXs, hbl, hlocks, -⟩ := id C0
  have hown : s.vm.findClass RL = some m.cls := hown
  have hts : ∀ w ∈ wsL_law, w.before #[Value.ref bq] s = true := fun w h => hts w (wsL_law_in w h)
  have hbA : ¬ (fun q : Nat => s.heap.size ≤ q) bq := Nat.not_le.mpr hbl
  have hK := hE.1.1
  intro u th H locs hu hP hD hS ls hl
  obtain ⟨σ, ra, sb, hd, ol, out⟩ := u
  obtain ⟨hI, hX, hJ⟩ := hu
  have hI : sI σ := hI
  have hX : xI σ hd ol := hX
  have hJ : xJ σ hd ol := hJ
  have hP : va_P dD vwCl ((xoW cI cR cS cL x0 b o0 (σ, ra, sb, hd, ol, out)) ++ mW cI m0 a th σ) H := hP
  have hD : va_D (fun q => s.heap.size ≤ q) ((xoW cI cR cS cL x0 b o0 (σ, ra, sb, hd, ol, out)) ++ mW cI m0 a th σ) := hD
  refine lv_aload_n hx hb dL_law_434 rfl (lv_at hl 1 rfl) ?_
  refine lv_aload_n hx hb dL_law_435 rfl (lv_at hl 0 rfl) ?_
  refine lv_iload hx hb dL_law_436 (lv_at hl 4 rfl) ?_
  refine lv_iconst (v := nI 1) hx hb dL_law_438 (by decide +kernel) ?_
  refine nv_iadd hx hb dL_law_439 ?_
  refine nv_sld hx hb hXs hbl hbA hS (by omega) (by omega) dL_law_440 ?_
  refine lv_aload_n hx hb dL_law_441 rfl (lv_at hl 3 rfl) ?_
  have hAH : ∀ q : Nat, H.size ≤ q → s.heap.size ≤ q := fun q h => Nat.le_trans hS.1 h
  have hFc := fr_free (w1 := (xoW cI cR cS cL x0 b o0 (σ, ra, sb, hd, ol, out))) (w2 := mW cI m0 a th σ) hD hAH
  refine va_calli (vx_runSW (As := [.ref x0, .int (xs ((5 * j) + 1)), .ref o0]) (rest := []) ⟨hx, hb, hml, hown, hts⟩ (c_L_late l dD cI cR cS s.heap.size cL hfl H.size hS.1 x0 b o0 ra sb hd ol σ out hI hX hJ (xs ((5 * j) + 1))) (vx_cwSW 3 hts gL_law_L_late rfl rfl rfl (by decide +kernel) ⟨Nat.le_of_ble_eq_true rfl, Nat.le_of_ble_eq_true rfl⟩) (lPreS hE hKL hS ⟨rfl, vP_app1 hP, vD_app1 hD⟩) rfl rfl hl.1 rfl (lv_room (Nat.le_of_ble_eq_true rfl)) dL_law_442 ⟨by simp only [room_1]; omega, by simp only [room_1]; omega⟩) hS (fun q _ h => hFc q h) hFc (fun r_ u_ t_ H1 locs ht_ hvm_ hw1 hB_ hz_ hk_ hS => ?_)
  obtain ⟨hP, hD⟩ := fr_join (w1 := (xoW cI cR cS cL x0 b o0 (σ, ra, sb, hd, ol, out))) (w1' := (xoW cI cR cS cL x0 b o0 u_)) (w2 := mW cI m0 a th σ) hP hD hAH hk_ (by rw [← ht_]; exact hB_.1) hB_.2
  obtain ⟨hw1, hok⟩ := hw1
  refine lv_istore (lv' := [(5, .int r_), (0, .ref bq), (1, .ref x0), (2, .ref m0), (3, .ref o0), (4, .int (nI (5 * j)))]) hx hb dL_law_445 hl (by decide) rfl (fun ls hl => ?_)
  refine lv_aload_n hx hb dL_law_447 rfl (lv_at hl 3 rfl) ?_
  refine lv_aload_n hx hb dL_law_448 rfl (lv_at hl 1 rfl) ?_
  refine lv_iload hx hb dL_law_449 (lv_at hl 5 rfl) ?_
  refine lv_iconst (v := nI 1) hx hb dL_law_451 (by decide +kernel) ?_
  refine nv_iadd hx hb dL_law_452 ?_
  refine nv_sld hx hb hXs hbl hbA hS (by omega) (by omega) dL_law_453 ?_
  have hAH : ∀ q : Nat, H1.size ≤ q → s.heap.size ≤ q := fun q h => Nat.le_trans hS.1 h
  have hFc := fr_freeR (w1 := mW cI m0 a th σ) (w2 := (xoW cI cR cS cL x0 b o0 u_)) hD hAH
  refine va_calli (va_runV (As := [.int (xs ((5 * j) + 1))]) (rest := []) ⟨hx, hb, hml, hown, hts⟩ (c_X3_late l dD cI cR cS s.heap.size H1.size hS.1 m0 a th σ hI (xs ((5 * j) + 1))) (cwV 1 hts gL_law_X3_late rfl rfl rfl (by decide +kernel) ⟨Nat.le_of_ble_eq_true rfl, Nat.le_of_ble_eq_true rfl⟩) (ePreV hE hS (vP_app2 (w1 := (xoW cI cR cS cL x0 b o0 u_)) hP) (k := 0) rfl rfl ⟨rfl, vP_app2 (w1 := (xoW cI cR cS cL x0 b o0 u_)) hP, vD_app2 (w1 := (xoW cI cR cS cL x0 b o0 u_)) hD⟩) rfl rfl hl.1 rfl (lv_room (Nat.le_of_ble_eq_true rfl)) dL_law_454 ⟨by simp only [room_1]; omega, by simp only [room_1]; omega⟩) hS (fun q _ h => hFc q h) hFc (fun r_454 u_454 t_ H1 locs ht_ hvm_ hw_454 hB_ hz_ hk_ hS => ?_)
  obtain ⟨hP, hD⟩ := fr_joinR (w1 := mW cI m0 a th σ) (w1' := mW cI m0 a u_454.1 u_454.2) (w2 := (xoW cI cR cS cL x0 b o0 u_)) hP hD hAH hk_ (by rw [← ht_]; exact hB_) (va_D_fst (vD_app2 (w1 := (xoW cI cR cS cL x0 b o0 u_)) hD).self rfl)
  obtain ⟨th3, σ3⟩ := u_454
  rcases hw1 with ⟨g1, g2, g3, rfl, g5⟩ | ⟨g1, g3, rfl⟩ | ⟨g1, g2, g3, rfl⟩
  · rcases hw_454 with ⟨f1, f2, f3, f4⟩ | ⟨f1, f3⟩ | ⟨f1, f2, f3⟩
    · obtain ⟨rfl, hs3⟩ := Prod.mk.inj f3
      have hs : u_.1 = σ3 := g3.trans hs3.symm
      have hI3 : sI σ3 := by rw [← hs]; exact hok.1
      have hP : va_P dD vwCl ((xoW cI cR cS cL x0 b o0 u_) ++ mW cI m0 a 0 σ3) H1 := hP
      have hD : va_D (fun q => s.heap.size ≤ q) ((xoW cI cR cS cL x0 b o0 u_) ++ mW cI m0 a 0 σ3) := hD
      have hout : u_.2.2.2.2.2 0 = (r_454).toInt64 := by rw [g5, f4]
      refine lv_istore (lv' := [(6, .int r_454), (5, .int (nI 0)), (0, .ref bq), (1, .ref x0), (2, .ref m0), (3, .ref o0), (4, .int (nI (5 * j)))]) hx hb dL_law_457 hl (by decide) rfl (fun ls hl => ?_)
      refine lv_aload_n hx hb dL_law_459 rfl (lv_at hl 4 rfl) ?_
      have hAH : ∀ q : Nat, H1.size ≤ q → s.heap.size ≤ q := fun q h => Nat.le_trans hS.1 h
      have hFc := fr_freeR (w1 := mW cI m0 a 0 σ3) (w2 := (xoW cI cR cS cL x0 b o0 u_)) hD hAH
      refine va_calli (va_runV (As := []) (rest := []) ⟨hx, hb, hml, hown, hts⟩ (c_X3_thrown l dD cI cR cS s.heap.size H1.size hS.1 m0 a 0 σ3 hI3 ) (cwV 0 hts gL_law_X3_thrown rfl rfl rfl (by decide +kernel) ⟨Nat.le_of_ble_eq_true rfl, Nat.le_of_ble_eq_true rfl⟩) (ePreV hE hS (vP_app2 (w1 := (xoW cI cR cS cL x0 b o0 u_)) hP) (k := 0) rfl rfl ⟨rfl, vP_app2 (w1 := (xoW cI cR cS cL x0 b o0 u_)) hP, vD_app2 (w1 := (xoW cI cR cS cL x0 b o0 u_)) hD⟩) rfl rfl hl.1 rfl (lv_room (Nat.le_of_ble_eq_true rfl)) dL_law_460 ⟨by simp only [room_1]; omega, by simp only [room_1]; omega⟩) hS (fun q _ h => hFc q h) hFc (fun r_460 u_460 t_ H1 locs ht_ hvm_ hw_460 hB_ hz_ hk_ hS => ?_)
      obtain ⟨hP, hD⟩ := fr_joinR (w1 := mW cI m0 a 0 σ3) (w1' := mW cI m0 a u_460.1 u_460.2) (w2 := (xoW cI cR cS cL x0 b o0 u_)) hP hD hAH hk_ (by rw [← ht_]; exact hB_) (va_D_fst (vD_app2 (w1 := (xoW cI cR cS cL x0 b o0 u_)) hD).self rfl)
      obtain ⟨f5, rfl⟩ := hw_460
      have hP : va_P dD vwCl ((xoW cI cR cS cL x0 b o0 u_) ++ mW cI m0 a 0 σ3) H1 := by rw [f5] at hP; exact hP
      have hD : va_D (fun q => s.heap.size ≤ q) ((xoW cI cR cS cL x0 b o0 u_) ++ mW cI m0 a 0 σ3) := by rw [f5] at hD; exact hD
      refine lv_iload hx hb dL_law_463 (lv_at hl 1 rfl) ?_
      refine nv_eq (tgt := 470) hx hb dL_law_465 (by decide) (by decide) (by decide) (fun c_465 => ?_) (fun c_465 => absurd c_465 (by decide))
      refine lv_iload hx hb dL_law_470 (lv_at hl 1 rfl) ?_
      refine nv_if_ne (tgt := 487) hx hb dL_law_472 (by decide) (by decide) (fun c_472 => absurd c_472 (by decide)) (fun c_472 => ?_)
      refine lv_aload_n hx hb dL_law_475 rfl (lv_at hl 5 rfl) ?_
      refine lv_iconst (v := nI 0) hx hb dL_law_476 (by decide +kernel) ?_
      refine va_lald hx hb hKL hP 0 0 rfl rfl (vp_in_nI (by decide) (by decide)) dL_law_477 ?_
      rw [show (nI 0).toNatClampNeg = 0 from by decide, hout]
      refine lv_iload hx hb dL_law_478 (lv_at hl 0 rfl) ?_
      refine lv_i2l (v := (r_454).toInt64) hx hb dL_law_480 rfl ?_
      refine W.lcmp hx hb dL_law_481 ?_
      rw [lg_self]
      refine lv_if_eq (tgt := 487) hx hb dL_law_482 (by decide) (fun c_482 => ?_) (fun c_482 => absurd rfl c_482)
      refine lv_goto (tgt := 1277) hx hb dL_law_487 (by decide) ?_
      refine W.widen (k := 108 + 8 * j) (n := 3064 + 64 * j) (by omega) (by omega) ?_
      exact hn u_ 0 H1 locs hok (by rw [hs]; exact hP) (by rw [hs]; exact hD) hS ls (lv_sub hl [2, 3, 4, 5, 6] rfl)
    · exact absurd g1 f1
    · exact absurd g2 f2
  · rcases hw_454 with ⟨f1, f2, f3, f4⟩ | ⟨f1, f3⟩ | ⟨f1, f2, f3⟩
    · exact absurd f1 g1
    · obtain ⟨rfl, hs3⟩ := Prod.mk.inj f3
      have hs : u_.1 = σ3 := g3.trans hs3.symm
      have hI3 : sI σ3 := by rw [← hs]; exact hok.1
      have hP : va_P dD vwCl ((xoW cI cR cS cL x0 b o0 u_) ++ mW cI m0 a 1 σ3) H1 := hP
      have hD : va_D (fun q => s.heap.size ≤ q) ((xoW cI cR cS cL x0 b o0 u_) ++ mW cI m0 a 1 σ3) := hD
      refine lv_istore (lv' := [(6, .int r_454), (5, .int (nI 1)), (0, .ref bq), (1, .ref x0), (2, .ref m0), (3, .ref o0), (4, .int (nI (5 * j)))]) hx hb dL_law_457 hl (by decide) rfl (fun ls hl => ?_)
      refine lv_aload_n hx hb dL_law_459 rfl (lv_at hl 4 rfl) ?_
      have hAH : ∀ q : Nat, H1.size ≤ q → s.heap.size ≤ q := fun q h => Nat.le_trans hS.1 h
      have hFc := fr_freeR (w1 := mW cI m0 a 1 σ3) (w2 := (xoW cI cR cS cL x0 b o0 u_)) hD hAH
      refine va_calli (va_runV (As := []) (rest := []) ⟨hx, hb, hml, hown, hts⟩ (c_X3_thrown l dD cI cR cS s.heap.size H1.size hS.1 m0 a 1 σ3 hI3 ) (cwV 0 hts gL_law_X3_thrown rfl rfl rfl (by decide +kernel) ⟨Nat.le_of_ble_eq_true rfl, Nat.le_of_ble_eq_true rfl⟩) (ePreV hE hS (vP_app2 (w1 := (xoW cI cR cS cL x0 b o0 u_)) hP) (k := 0) rfl rfl ⟨rfl, vP_app2 (w1 := (xoW cI cR cS cL x0 b o0 u_)) hP, vD_app2 (w1 := (xoW cI cR cS cL x0 b o0 u_)) hD⟩) rfl rfl hl.1 rfl (lv_room (Nat.le_of_ble_eq_true rfl)) dL_law_460 ⟨by simp only [room_1]; omega, by simp only [room_1]; omega⟩) hS (fun q _ h => hFc q h) hFc (fun r_460 u_460 t_ H1 locs ht_ hvm_ hw_460 hB_ hz_ hk_ hS => ?_)
      obtain ⟨hP, hD⟩ := fr_joinR (w1 := mW cI m0 a 1 σ3) (w1' := mW cI m0 a u_460.1 u_460.2) (w2 := (xoW cI cR cS cL x0 b o0 u_)) hP hD hAH hk_ (by rw [← ht_]; exact hB_) (va_D_fst (vD_app2 (w1 := (xoW cI cR cS cL x0 b o0 u_)) hD).self rfl)
      obtain ⟨f5, rfl⟩ := hw_460
      have hP : va_P dD vwCl ((xoW cI cR cS cL x0 b o0 u_) ++ mW cI m0 a 1 σ3) H1 := by rw [f5] at hP; exact hP
      have hD : va_D (fun q => s.heap.size ≤ q) ((xoW cI cR cS cL x0 b o0 u_) ++ mW cI m0 a 1 σ3) := by rw [f5] at hD; exact hD
      refine lv_iload hx hb dL_law_463 (lv_at hl 1 rfl) ?_
      refine nv_eq (tgt := 470) hx hb dL_law_465 (by decide) (by decide) (by decide) (fun c_465 => ?_) (fun c_465 => absurd c_465 (by decide))
      refine lv_iload hx hb dL_law_470 (lv_at hl 1 rfl) ?_
      refine nv_if_ne (tgt := 487) hx hb dL_law_472 (by decide) (by decide) (fun c_472 => ?_) (fun c_472 => absurd c_472 (by decide))
      refine lv_goto (tgt := 1277) hx hb dL_law_487 (by decide) ?_
      refine W.widen (k := 108 + 8 * j) (n := 3064 + 64 * j) (by omega) (by omega) ?_
      exact hn u_ 1 H1 locs hok (by rw [hs]; exact hP) (by rw [hs]; exact hD) hS ls (lv_sub hl [2, 3, 4, 5, 6] rfl)
    · exact absurd f1 g1
  · rcases hw_454 with ⟨f1, f2, f3, f4⟩ | ⟨f1, f3⟩ | ⟨f1, f2, f3⟩
    · exact absurd f2 g2
    · exact absurd g1 f1
    · obtain ⟨rfl, hs3⟩ := Prod.mk.inj f3
      have hs : u_.1 = σ3 := g3.trans hs3.symm
      have hI3 : sI σ3 := by rw [← hs]; exact hok.1
      have hP : va_P dD vwCl ((xoW cI cR cS cL x0 b o0 u_) ++ mW cI m0 a 2 σ3) H1 := hP
      have hD : va_D (fun q => s.heap.size ≤ q) ((xoW cI cR cS cL x0 b o0 u_) ++ mW cI m0 a 2 σ3) := hD
      refine lv_istore (lv' := [(6, .int r_454), (5, .int (nI 2)), (0, .ref bq), (1, .ref x0), (2, .ref m0), (3, .ref o0), (4, .int (nI (5 * j)))]) hx hb dL_law_457 hl (by decide) rfl (fun ls hl => ?_)
      refine lv_aload_n hx hb dL_law_459 rfl (lv_at hl 4 rfl) ?_
      have hAH : ∀ q : Nat, H1.size ≤ q → s.heap.size ≤ q := fun q h => Nat.le_trans hS.1 h
      have hFc := fr_freeR (w1 := mW cI m0 a 2 σ3) (w2 := (xoW cI cR cS cL x0 b o0 u_)) hD hAH
      refine va_calli (va_runV (As := []) (rest := []) ⟨hx, hb, hml, hown, hts⟩ (c_X3_thrown l dD cI cR cS s.heap.size H1.size hS.1 m0 a 2 σ3 hI3 ) (cwV 0 hts gL_law_X3_thrown rfl rfl rfl (by decide +kernel) ⟨Nat.le_of_ble_eq_true rfl, Nat.le_of_ble_eq_true rfl⟩) (ePreV hE hS (vP_app2 (w1 := (xoW cI cR cS cL x0 b o0 u_)) hP) (k := 0) rfl rfl ⟨rfl, vP_app2 (w1 := (xoW cI cR cS cL x0 b o0 u_)) hP, vD_app2 (w1 := (xoW cI cR cS cL x0 b o0 u_)) hD⟩) rfl rfl hl.1 rfl (lv_room (Nat.le_of_ble_eq_true rfl)) dL_law_460 ⟨by simp only [room_1]; omega, by simp only [room_1]; omega⟩) hS (fun q _ h => hFc q h) hFc (fun r_460 u_460 t_ H1 locs ht_ hvm_ hw_460 hB_ hz_ hk_ hS => ?_)
      obtain ⟨hP, hD⟩ := fr_joinR (w1 := mW cI m0 a 2 σ3) (w1' := mW cI m0 a u_460.1 u_460.2) (w2 := (xoW cI cR cS cL x0 b o0 u_)) hP hD hAH hk_ (by rw [← ht_]; exact hB_) (va_D_fst (vD_app2 (w1 := (xoW cI cR cS cL x0 b o0 u_)) hD).self rfl)
      obtain ⟨f5, rfl⟩ := hw_460
      have hP : va_P dD vwCl ((xoW cI cR cS cL x0 b o0 u_) ++ mW cI m0 a 2 σ3) H1 := by rw [f5] at hP; exact hP
      have hD : va_D (fun q => s.heap.size ≤ q) ((xoW cI cR cS cL x0 b o0 u_) ++ mW cI m0 a 2 σ3) := by rw [f5] at hD; exact hD
      refine lv_iload hx hb dL_law_463 (lv_at hl 1 rfl) ?_
      refine nv_eq (tgt := 470) hx hb dL_law_465 (by decide) (by decide) (by decide) (fun c_465 => ?_) (fun c_465 => absurd c_465 (by decide))
      refine lv_iload hx hb dL_law_470 (lv_at hl 1 rfl) ?_
      refine nv_if_ne (tgt := 487) hx hb dL_law_472 (by decide) (by decide) (fun c_472 => ?_) (fun c_472 => absurd c_472 (by decide))
      refine lv_goto (tgt := 1277) hx hb dL_law_487 (by decide) ?_
      refine W.widen (k := 108 + 8 * j) (n := 3064 + 64 * j) (by omega) (by omega) ?_
      exact hn u_ 2 H1 locs hok (by rw [hs]; exact hP) (by rw [hs]; exact hD) hS ls (lv_sub hl [2, 3, 4, 5, 6] rfl)

set_option maxHeartbeats 4000000 in
set_option maxRecDepth 100000 in
theorem law_join {p : Program} {l : Launch} {e_ : Env} {s : State} {m : MethodId} {below : List Frame} {meth : Method} {c : Code} {bq L : Nat} {xs : Nat → Int32} (hL : L ≤ 2560) (C0 : lw_At p s m meth c bq L xs) (hfl : l.stackTraces = false) {dD : va_G} {cI cR cS cL : ClassId} (hE : eE dD cI cR cS s.heap.size s s.heap) (hKL : va_K dD vwCl [(cL, .long)] s) {x0 m0 o0 : Nat} {b a : Nat → Nat} {j : Nat} (hj : 5 * j + 5 ≤ L) (hn : lS p l e_ s m below meth c bq dD cI cR cS cL x0 m0 o0 b a j (108 + 8 * j) (3064 + 64 * j) 1277) : lS p l e_ s m below meth c bq dD cI cR cS cL x0 m0 o0 b a j (100 + 8 * j) (3000 + 64 * j) 490 := by
  obtain ⟨hx, hb, -, hml, hown, hts, hXs, hbl, hlocks, -⟩ := id C0
  have hown : s.vm.findClass RL = some m.cls := hown
  have hts : ∀ w ∈ wsL_law, w.before #[Value.ref bq] s = true := fun w h => hts w (wsL_law_in w h)
  have hbA : ¬ (fun q : Nat => s.heap.size ≤ q) bq := Nat.not_le.mpr hbl
  have hK := hE.1.1
  intro u th H locs hu hP hD hS ls hl
  obtain ⟨σ, ra, sb, hd, ol, out⟩ := u
  obtain ⟨hI, hX, hJ⟩ := hu
  have hI : sI σ := hI
  have hX : xI σ hd ol := hX
  have hJ : xJ σ hd ol := hJ
  have hP : va_P dD vwCl ((xoW cI cR cS cL x0 b o0 (σ, ra, sb, hd, ol, out)) ++ mW cI m0 a th σ) H := hP
  have hD : va_D (fun q => s.heap.size ≤ q) ((xoW cI cR cS cL x0 b o0 (σ, ra, sb, hd, ol, out)) ++ mW cI m0 a th σ) := hD
  refine lv_aload_n hx hb dL_law_490 rfl (lv_at hl 1 rfl) ?_
  refine lv_aload_n hx hb dL_law_491 rfl (lv_at hl 0 rfl) ?_
  refine lv_iload hx hb dL_law_492 (lv_at hl 4 rfl) ?_
  refine lv_iconst (v := nI 1) hx hb dL_law_494 (by decide +kernel) ?_
  refine nv_iadd hx hb dL_law_495 ?_
  refine nv_sld hx hb hXs hbl hbA hS (by omega) (by omega) dL_law_496 ?_
  refine lv_aload_n hx hb dL_law_497 rfl (lv_at hl 0 rfl) ?_
  refine lv_iload hx hb dL_law_498 (lv_at hl 4 rfl) ?_
  refine lv_iconst (v := nI 2) hx hb dL_law_500 (by decide +kernel) ?_
  refine nv_iadd hx hb dL_law_501 ?_
  refine nv_sld hx hb hXs hbl hbA hS (by omega) (by omega) dL_law_502 ?_
  refine lv_aload_n hx hb dL_law_503 rfl (lv_at hl 0 rfl) ?_
  refine lv_iload hx hb dL_law_504 (lv_at hl 4 rfl) ?_
  refine lv_iconst (v := nI 3) hx hb dL_law_506 (by decide +kernel) ?_
  refine nv_iadd hx hb dL_law_507 ?_
  refine nv_sld hx hb hXs hbl hbA hS (by omega) (by omega) dL_law_508 ?_
  refine lv_aload_n hx hb dL_law_509 rfl (lv_at hl 0 rfl) ?_
  refine lv_iload hx hb dL_law_510 (lv_at hl 4 rfl) ?_
  refine lv_iconst (v := nI 4) hx hb dL_law_512 (by decide +kernel) ?_
  refine nv_iadd hx hb dL_law_513 ?_
  refine nv_sld hx hb hXs hbl hbA hS (by omega) (by omega) dL_law_514 ?_
  refine lv_aload_n hx hb dL_law_515 rfl (lv_at hl 3 rfl) ?_
  have hAH : ∀ q : Nat, H.size ≤ q → s.heap.size ≤ q := fun q h => Nat.le_trans hS.1 h
  have hFc := fr_free (w1 := (xoW cI cR cS cL x0 b o0 (σ, ra, sb, hd, ol, out))) (w2 := mW cI m0 a th σ) hD hAH
  refine va_calli (vx_runSW (As := [.ref x0, .int (xs ((5 * j) + 1)), .int (xs ((5 * j) + 2)), .int (xs ((5 * j) + 3)), .int (xs ((5 * j) + 4)), .ref o0]) (rest := []) ⟨hx, hb, hml, hown, hts⟩ (c_L_join l dD cI cR cS s.heap.size cL hfl H.size hS.1 x0 b o0 ra sb hd ol σ out hI hX hJ (xs ((5 * j) + 1)) (xs ((5 * j) + 2)) (xs ((5 * j) + 3)) (xs ((5 * j) + 4))) (vx_cwSW 6 hts gL_law_L_join rfl rfl rfl (by decide +kernel) ⟨Nat.le_of_ble_eq_true rfl, Nat.le_of_ble_eq_true rfl⟩) (lPreS hE hKL hS ⟨rfl, vP_app1 hP, vD_app1 hD⟩) rfl rfl hl.1 rfl (lv_room (Nat.le_of_ble_eq_true rfl)) dL_law_516 ⟨by simp only [room_1]; omega, by simp only [room_1]; omega⟩) hS (fun q _ h => hFc q h) hFc (fun r_ u_ t_ H1 locs ht_ hvm_ hw1 hB_ hz_ hk_ hS => ?_)
  obtain ⟨hP, hD⟩ := fr_join (w1 := (xoW cI cR cS cL x0 b o0 (σ, ra, sb, hd, ol, out))) (w1' := (xoW cI cR cS cL x0 b o0 u_)) (w2 := mW cI m0 a th σ) hP hD hAH hk_ (by rw [← ht_]; exact hB_.1) hB_.2
  obtain ⟨hw1, hok⟩ := hw1
  refine lv_istore (lv' := [(5, .int r_), (0, .ref bq), (1, .ref x0), (2, .ref m0), (3, .ref o0), (4, .int (nI (5 * j)))]) hx hb dL_law_519 hl (by decide) rfl (fun ls hl => ?_)
  refine lv_aload_n hx hb dL_law_521 rfl (lv_at hl 3 rfl) ?_
  refine lv_aload_n hx hb dL_law_522 rfl (lv_at hl 1 rfl) ?_
  refine lv_iload hx hb dL_law_523 (lv_at hl 5 rfl) ?_
  refine lv_iconst (v := nI 1) hx hb dL_law_525 (by decide +kernel) ?_
  refine nv_iadd hx hb dL_law_526 ?_
  refine nv_sld hx hb hXs hbl hbA hS (by omega) (by omega) dL_law_527 ?_
  refine lv_aload_n hx hb dL_law_528 rfl (lv_at hl 1 rfl) ?_
  refine lv_iload hx hb dL_law_529 (lv_at hl 5 rfl) ?_
  refine lv_iconst (v := nI 2) hx hb dL_law_531 (by decide +kernel) ?_
  refine nv_iadd hx hb dL_law_532 ?_
  refine nv_sld hx hb hXs hbl hbA hS (by omega) (by omega) dL_law_533 ?_
  refine lv_aload_n hx hb dL_law_534 rfl (lv_at hl 1 rfl) ?_
  refine lv_iload hx hb dL_law_535 (lv_at hl 5 rfl) ?_
  refine lv_iconst (v := nI 3) hx hb dL_law_537 (by decide +kernel) ?_
  refine nv_iadd hx hb dL_law_538 ?_
  refine nv_sld hx hb hXs hbl hbA hS (by omega) (by omega) dL_law_539 ?_
  refine lv_aload_n hx hb dL_law_540 rfl (lv_at hl 1 rfl) ?_
  refine lv_iload hx hb dL_law_541 (lv_at hl 5 rfl) ?_
  refine lv_iconst (v := nI 4) hx hb dL_law_543 (by decide +kernel) ?_
  refine nv_iadd hx hb dL_law_544 ?_
  refine nv_sld hx hb hXs hbl hbA hS (by omega) (by omega) dL_law_545 ?_
  have hAH : ∀ q : Nat, H1.size ≤ q → s.heap.size ≤ q := fun q h => Nat.le_trans hS.1 h
  have hFc := fr_freeR (w1 := mW cI m0 a th σ) (w2 := (xoW cI cR cS cL x0 b o0 u_)) hD hAH
  refine va_calli (va_runV (As := [.int (xs ((5 * j) + 1)), .int (xs ((5 * j) + 2)), .int (xs ((5 * j) + 3)), .int (xs ((5 * j) + 4))]) (rest := []) ⟨hx, hb, hml, hown, hts⟩ (c_X3_join l dD cI cR cS s.heap.size H1.size hS.1 m0 a th σ hI (xs ((5 * j) + 1)) (xs ((5 * j) + 2)) (xs ((5 * j) + 3)) (xs ((5 * j) + 4))) (cwV 4 hts gL_law_X3_join rfl rfl rfl (by decide +kernel) ⟨Nat.le_of_ble_eq_true rfl, Nat.le_of_ble_eq_true rfl⟩) (ePreV hE hS (vP_app2 (w1 := (xoW cI cR cS cL x0 b o0 u_)) hP) (k := 0) rfl rfl ⟨rfl, vP_app2 (w1 := (xoW cI cR cS cL x0 b o0 u_)) hP, vD_app2 (w1 := (xoW cI cR cS cL x0 b o0 u_)) hD⟩) rfl rfl hl.1 rfl (lv_room (Nat.le_of_ble_eq_true rfl)) dL_law_546 ⟨by simp only [room_1]; omega, by simp only [room_1]; omega⟩) hS (fun q _ h => hFc q h) hFc (fun r_546 u_546 t_ H1 locs ht_ hvm_ hw_546 hB_ hz_ hk_ hS => ?_)
  obtain ⟨hP, hD⟩ := fr_joinR (w1 := mW cI m0 a th σ) (w1' := mW cI m0 a u_546.1 u_546.2) (w2 := (xoW cI cR cS cL x0 b o0 u_)) hP hD hAH hk_ (by rw [← ht_]; exact hB_) (va_D_fst (vD_app2 (w1 := (xoW cI cR cS cL x0 b o0 u_)) hD).self rfl)
  obtain ⟨th3, σ3⟩ := u_546
  rcases hw1 with ⟨g1, g2, g3, rfl, g5⟩ | ⟨g1, g3, rfl⟩ | ⟨g1, g2, g3, rfl⟩
  · rcases hw_546 with ⟨f1, f2, f3, f4⟩ | ⟨f1, f3⟩ | ⟨f1, f2, f3⟩
    · obtain ⟨rfl, hs3⟩ := Prod.mk.inj f3
      have hs : u_.1 = σ3 := g3.trans hs3.symm
      have hI3 : sI σ3 := by rw [← hs]; exact hok.1
      have hP : va_P dD vwCl ((xoW cI cR cS cL x0 b o0 u_) ++ mW cI m0 a 0 σ3) H1 := hP
      have hD : va_D (fun q => s.heap.size ≤ q) ((xoW cI cR cS cL x0 b o0 u_) ++ mW cI m0 a 0 σ3) := hD
      have hout : u_.2.2.2.2.2 0 = (r_546).toInt64 := by rw [g5, f4]
      refine lv_istore (lv' := [(6, .int r_546), (5, .int (nI 0)), (0, .ref bq), (1, .ref x0), (2, .ref m0), (3, .ref o0), (4, .int (nI (5 * j)))]) hx hb dL_law_549 hl (by decide) rfl (fun ls hl => ?_)
      refine lv_aload_n hx hb dL_law_551 rfl (lv_at hl 4 rfl) ?_
      have hAH : ∀ q : Nat, H1.size ≤ q → s.heap.size ≤ q := fun q h => Nat.le_trans hS.1 h
      have hFc := fr_freeR (w1 := mW cI m0 a 0 σ3) (w2 := (xoW cI cR cS cL x0 b o0 u_)) hD hAH
      refine va_calli (va_runV (As := []) (rest := []) ⟨hx, hb, hml, hown, hts⟩ (c_X3_thrown l dD cI cR cS s.heap.size H1.size hS.1 m0 a 0 σ3 hI3 ) (cwV 0 hts gL_law_X3_thrown rfl rfl rfl (by decide +kernel) ⟨Nat.le_of_ble_eq_true rfl, Nat.le_of_ble_eq_true rfl⟩) (ePreV hE hS (vP_app2 (w1 := (xoW cI cR cS cL x0 b o0 u_)) hP) (k := 0) rfl rfl ⟨rfl, vP_app2 (w1 := (xoW cI cR cS cL x0 b o0 u_)) hP, vD_app2 (w1 := (xoW cI cR cS cL x0 b o0 u_)) hD⟩) rfl rfl hl.1 rfl (lv_room (Nat.le_of_ble_eq_true rfl)) dL_law_552 ⟨by simp only [room_1]; omega, by simp only [room_1]; omega⟩) hS (fun q _ h => hFc q h) hFc (fun r_552 u_552 t_ H1 locs ht_ hvm_ hw_552 hB_ hz_ hk_ hS => ?_)
      obtain ⟨hP, hD⟩ := fr_joinR (w1 := mW cI m0 a 0 σ3) (w1' := mW cI m0 a u_552.1 u_552.2) (w2 := (xoW cI cR cS cL x0 b o0 u_)) hP hD hAH hk_ (by rw [← ht_]; exact hB_) (va_D_fst (vD_app2 (w1 := (xoW cI cR cS cL x0 b o0 u_)) hD).self rfl)
      obtain ⟨f5, rfl⟩ := hw_552
      have hP : va_P dD vwCl ((xoW cI cR cS cL x0 b o0 u_) ++ mW cI m0 a 0 σ3) H1 := by rw [f5] at hP; exact hP
      have hD : va_D (fun q => s.heap.size ≤ q) ((xoW cI cR cS cL x0 b o0 u_) ++ mW cI m0 a 0 σ3) := by rw [f5] at hD; exact hD
      refine lv_iload hx hb dL_law_555 (lv_at hl 1 rfl) ?_
      refine nv_eq (tgt := 562) hx hb dL_law_557 (by decide) (by decide) (by decide) (fun c_557 => ?_) (fun c_557 => absurd c_557 (by decide))
      refine lv_iload hx hb dL_law_562 (lv_at hl 1 rfl) ?_
      refine nv_if_ne (tgt := 579) hx hb dL_law_564 (by decide) (by decide) (fun c_564 => absurd c_564 (by decide)) (fun c_564 => ?_)
      refine lv_aload_n hx hb dL_law_567 rfl (lv_at hl 5 rfl) ?_
      refine lv_iconst (v := nI 0) hx hb dL_law_568 (by decide +kernel) ?_
      refine va_lald hx hb hKL hP 0 0 rfl rfl (vp_in_nI (by decide) (by decide)) dL_law_569 ?_
      rw [show (nI 0).toNatClampNeg = 0 from by decide, hout]
      refine lv_iload hx hb dL_law_570 (lv_at hl 0 rfl) ?_
      refine lv_i2l (v := (r_546).toInt64) hx hb dL_law_572 rfl ?_
      refine W.lcmp hx hb dL_law_573 ?_
      rw [lg_self]
      refine lv_if_eq (tgt := 579) hx hb dL_law_574 (by decide) (fun c_574 => ?_) (fun c_574 => absurd rfl c_574)
      refine lv_goto (tgt := 1277) hx hb dL_law_579 (by decide) ?_
      refine W.widen (k := 108 + 8 * j) (n := 3064 + 64 * j) (by omega) (by omega) ?_
      exact hn u_ 0 H1 locs hok (by rw [hs]; exact hP) (by rw [hs]; exact hD) hS ls (lv_sub hl [2, 3, 4, 5, 6] rfl)
    · exact absurd g1 f1
    · exact absurd g2 f2
  · rcases hw_546 with ⟨f1, f2, f3, f4⟩ | ⟨f1, f3⟩ | ⟨f1, f2, f3⟩
    · exact absurd f1 g1
    · obtain ⟨rfl, hs3⟩ := Prod.mk.inj f3
      have hs : u_.1 = σ3 := g3.trans hs3.symm
      have hI3 : sI σ3 := by rw [← hs]; exact hok.1
      have hP : va_P dD vwCl ((xoW cI cR cS cL x0 b o0 u_) ++ mW cI m0 a 1 σ3) H1 := hP
      have hD : va_D (fun q => s.heap.size ≤ q) ((xoW cI cR cS cL x0 b o0 u_) ++ mW cI m0 a 1 σ3) := hD
      refine lv_istore (lv' := [(6, .int r_546), (5, .int (nI 1)), (0, .ref bq), (1, .ref x0), (2, .ref m0), (3, .ref o0), (4, .int (nI (5 * j)))]) hx hb dL_law_549 hl (by decide) rfl (fun ls hl => ?_)
      refine lv_aload_n hx hb dL_law_551 rfl (lv_at hl 4 rfl) ?_
      have hAH : ∀ q : Nat, H1.size ≤ q → s.heap.size ≤ q := fun q h => Nat.le_trans hS.1 h
      have hFc := fr_freeR (w1 := mW cI m0 a 1 σ3) (w2 := (xoW cI cR cS cL x0 b o0 u_)) hD hAH
      refine va_calli (va_runV (As := []) (rest := []) ⟨hx, hb, hml, hown, hts⟩ (c_X3_thrown l dD cI cR cS s.heap.size H1.size hS.1 m0 a 1 σ3 hI3 ) (cwV 0 hts gL_law_X3_thrown rfl rfl rfl (by decide +kernel) ⟨Nat.le_of_ble_eq_true rfl, Nat.le_of_ble_eq_true rfl⟩) (ePreV hE hS (vP_app2 (w1 := (xoW cI cR cS cL x0 b o0 u_)) hP) (k := 0) rfl rfl ⟨rfl, vP_app2 (w1 := (xoW cI cR cS cL x0 b o0 u_)) hP, vD_app2 (w1 := (xoW cI cR cS cL x0 b o0 u_)) hD⟩) rfl rfl hl.1 rfl (lv_room (Nat.le_of_ble_eq_true rfl)) dL_law_552 ⟨by simp only [room_1]; omega, by simp only [room_1]; omega⟩) hS (fun q _ h => hFc q h) hFc (fun r_552 u_552 t_ H1 locs ht_ hvm_ hw_552 hB_ hz_ hk_ hS => ?_)
      obtain ⟨hP, hD⟩ := fr_joinR (w1 := mW cI m0 a 1 σ3) (w1' := mW cI m0 a u_552.1 u_552.2) (w2 := (xoW cI cR cS cL x0 b o0 u_)) hP hD hAH hk_ (by rw [← ht_]; exact hB_) (va_D_fst (vD_app2 (w1 := (xoW cI cR cS cL x0 b o0 u_)) hD).self rfl)
      obtain ⟨f5, rfl⟩ := hw_552
      have hP : va_P dD vwCl ((xoW cI cR cS cL x0 b o0 u_) ++ mW cI m0 a 1 σ3) H1 := by rw [f5] at hP; exact hP
      have hD : va_D (fun q => s.heap.size ≤ q) ((xoW cI cR cS cL x0 b o0 u_) ++ mW cI m0 a 1 σ3) := by rw [f5] at hD; exact hD
      refine lv_iload hx hb dL_law_555 (lv_at hl 1 rfl) ?_
      refine nv_eq (tgt := 562) hx hb dL_law_557 (by decide) (by decide) (by decide) (fun c_557 => ?_) (fun c_557 => absurd c_557 (by decide))
      refine lv_iload hx hb dL_law_562 (lv_at hl 1 rfl) ?_
      refine nv_if_ne (tgt := 579) hx hb dL_law_564 (by decide) (by decide) (fun c_564 => ?_) (fun c_564 => absurd c_564 (by decide))
      refine lv_goto (tgt := 1277) hx hb dL_law_579 (by decide) ?_
      refine W.widen (k := 108 + 8 * j) (n := 3064 + 64 * j) (by omega) (by omega) ?_
      exact hn u_ 1 H1 locs hok (by rw [hs]; exact hP) (by rw [hs]; exact hD) hS ls (lv_sub hl [2, 3, 4, 5, 6] rfl)
    · exact absurd f1 g1
  · rcases hw_546 with ⟨f1, f2, f3, f4⟩ | ⟨f1, f3⟩ | ⟨f1, f2, f3⟩
    · exact absurd f2 g2
    · exact absurd g1 f1
    · obtain ⟨rfl, hs3⟩ := Prod.mk.inj f3
      have hs : u_.1 = σ3 := g3.trans hs3.symm
      have hI3 : sI σ3 := by rw [← hs]; exact hok.1
      have hP : va_P dD vwCl ((xoW cI cR cS cL x0 b o0 u_) ++ mW cI m0 a 2 σ3) H1 := hP
      have hD : va_D (fun q => s.heap.size ≤ q) ((xoW cI cR cS cL x0 b o0 u_) ++ mW cI m0 a 2 σ3) := hD
      refine lv_istore (lv' := [(6, .int r_546), (5, .int (nI 2)), (0, .ref bq), (1, .ref x0), (2, .ref m0), (3, .ref o0), (4, .int (nI (5 * j)))]) hx hb dL_law_549 hl (by decide) rfl (fun ls hl => ?_)
      refine lv_aload_n hx hb dL_law_551 rfl (lv_at hl 4 rfl) ?_
      have hAH : ∀ q : Nat, H1.size ≤ q → s.heap.size ≤ q := fun q h => Nat.le_trans hS.1 h
      have hFc := fr_freeR (w1 := mW cI m0 a 2 σ3) (w2 := (xoW cI cR cS cL x0 b o0 u_)) hD hAH
      refine va_calli (va_runV (As := []) (rest := []) ⟨hx, hb, hml, hown, hts⟩ (c_X3_thrown l dD cI cR cS s.heap.size H1.size hS.1 m0 a 2 σ3 hI3 ) (cwV 0 hts gL_law_X3_thrown rfl rfl rfl (by decide +kernel) ⟨Nat.le_of_ble_eq_true rfl, Nat.le_of_ble_eq_true rfl⟩) (ePreV hE hS (vP_app2 (w1 := (xoW cI cR cS cL x0 b o0 u_)) hP) (k := 0) rfl rfl ⟨rfl, vP_app2 (w1 := (xoW cI cR cS cL x0 b o0 u_)) hP, vD_app2 (w1 := (xoW cI cR cS cL x0 b o0 u_)) hD⟩) rfl rfl hl.1 rfl (lv_room (Nat.le_of_ble_eq_true rfl)) dL_law_552 ⟨by simp only [room_1]; omega, by simp only [room_1]; omega⟩) hS (fun q _ h => hFc q h) hFc (fun r_552 u_552 t_ H1 locs ht_ hvm_ hw_552 hB_ hz_ hk_ hS => ?_)
      obtain ⟨hP, hD⟩ := fr_joinR (w1 := mW cI m0 a 2 σ3) (w1' := mW cI m0 a u_552.1 u_552.2) (w2 := (xoW cI cR cS cL x0 b o0 u_)) hP hD hAH hk_ (by rw [← ht_]; exact hB_) (va_D_fst (vD_app2 (w1 := (xoW cI cR cS cL x0 b o0 u_)) hD).self rfl)
      obtain ⟨f5, rfl⟩ := hw_552
      have hP : va_P dD vwCl ((xoW cI cR cS cL x0 b o0 u_) ++ mW cI m0 a 2 σ3) H1 := by rw [f5] at hP; exact hP
      have hD : va_D (fun q => s.heap.size ≤ q) ((xoW cI cR cS cL x0 b o0 u_) ++ mW cI m0 a 2 σ3) := by rw [f5] at hD; exact hD
      refine lv_iload hx hb dL_law_555 (lv_at hl 1 rfl) ?_
      refine nv_eq (tgt := 562) hx hb dL_law_557 (by decide) (by decide) (by decide) (fun c_557 => ?_) (fun c_557 => absurd c_557 (by decide))
      refine lv_iload hx hb dL_law_562 (lv_at hl 1 rfl) ?_
      refine nv_if_ne (tgt := 579) hx hb dL_law_564 (by decide) (by decide) (fun c_564 => ?_) (fun c_564 => absurd c_564 (by decide))
      refine lv_goto (tgt := 1277) hx hb dL_law_579 (by decide) ?_
      refine W.widen (k := 108 + 8 * j) (n := 3064 + 64 * j) (by omega) (by omega) ?_
      exact hn u_ 2 H1 locs hok (by rw [hs]; exact hP) (by rw [hs]; exact hD) hS ls (lv_sub hl [2, 3, 4, 5, 6] rfl)

set_option maxHeartbeats 4000000 in
set_option maxRecDepth 100000 in
theorem law_window {p : Program} {l : Launch} {e_ : Env} {s : State} {m : MethodId} {below : List Frame} {meth : Method} {c : Code} {bq L : Nat} {xs : Nat → Int32} (hL : L ≤ 2560) (C0 : lw_At p s m meth c bq L xs) (hfl : l.stackTraces = false) {dD : va_G} {cI cR cS cL : ClassId} (hE : eE dD cI cR cS s.heap.size s s.heap) (hKL : va_K dD vwCl [(cL, .long)] s) {x0 m0 o0 : Nat} {b a : Nat → Nat} {j : Nat} (hj : 5 * j + 5 ≤ L) (hn : lS p l e_ s m below meth c bq dD cI cR cS cL x0 m0 o0 b a j (108 + 8 * j) (3064 + 64 * j) 1277) : lS p l e_ s m below meth c bq dD cI cR cS cL x0 m0 o0 b a j (100 + 8 * j) (3000 + 64 * j) 582 := by
  obtain ⟨hx, hb, -, hml, hown, hts, hXs, hbl, hlocks, -⟩ := id C0
  have hown : s.vm.findClass RL = some m.cls := hown
  have hts : ∀ w ∈ wsL_law, w.before #[Value.ref bq] s = true := fun w h => hts w (wsL_law_in w h)
  have hbA : ¬ (fun q : Nat => s.heap.size ≤ q) bq := Nat.not_le.mpr hbl
  have hK := hE.1.1
  intro u th H locs hu hP hD hS ls hl
  obtain ⟨σ, ra, sb, hd, ol, out⟩ := u
  obtain ⟨hI, hX, hJ⟩ := hu
  have hI : sI σ := hI
  have hX : xI σ hd ol := hX
  have hJ : xJ σ hd ol := hJ
  have hP : va_P dD vwCl ((xoW cI cR cS cL x0 b o0 (σ, ra, sb, hd, ol, out)) ++ mW cI m0 a th σ) H := hP
  have hD : va_D (fun q => s.heap.size ≤ q) ((xoW cI cR cS cL x0 b o0 (σ, ra, sb, hd, ol, out)) ++ mW cI m0 a th σ) := hD
  refine lv_aload_n hx hb dL_law_582 rfl (lv_at hl 1 rfl) ?_
  refine lv_aload_n hx hb dL_law_583 rfl (lv_at hl 0 rfl) ?_
  refine lv_iload hx hb dL_law_584 (lv_at hl 4 rfl) ?_
  refine lv_iconst (v := nI 1) hx hb dL_law_586 (by decide +kernel) ?_
  refine nv_iadd hx hb dL_law_587 ?_
  refine nv_sld hx hb hXs hbl hbA hS (by omega) (by omega) dL_law_588 ?_
  refine lv_aload_n hx hb dL_law_589 rfl (lv_at hl 0 rfl) ?_
  refine lv_iload hx hb dL_law_590 (lv_at hl 4 rfl) ?_
  refine lv_iconst (v := nI 2) hx hb dL_law_592 (by decide +kernel) ?_
  refine nv_iadd hx hb dL_law_593 ?_
  refine nv_sld hx hb hXs hbl hbA hS (by omega) (by omega) dL_law_594 ?_
  refine lv_aload_n hx hb dL_law_595 rfl (lv_at hl 0 rfl) ?_
  refine lv_iload hx hb dL_law_596 (lv_at hl 4 rfl) ?_
  refine lv_iconst (v := nI 3) hx hb dL_law_598 (by decide +kernel) ?_
  refine nv_iadd hx hb dL_law_599 ?_
  refine nv_sld hx hb hXs hbl hbA hS (by omega) (by omega) dL_law_600 ?_
  refine lv_aload_n hx hb dL_law_601 rfl (lv_at hl 0 rfl) ?_
  refine lv_iload hx hb dL_law_602 (lv_at hl 4 rfl) ?_
  refine lv_iconst (v := nI 4) hx hb dL_law_604 (by decide +kernel) ?_
  refine nv_iadd hx hb dL_law_605 ?_
  refine nv_sld hx hb hXs hbl hbA hS (by omega) (by omega) dL_law_606 ?_
  refine lv_aload_n hx hb dL_law_607 rfl (lv_at hl 3 rfl) ?_
  have hAH : ∀ q : Nat, H.size ≤ q → s.heap.size ≤ q := fun q h => Nat.le_trans hS.1 h
  have hFc := fr_free (w1 := (xoW cI cR cS cL x0 b o0 (σ, ra, sb, hd, ol, out))) (w2 := mW cI m0 a th σ) hD hAH
  refine va_calli (vx_runSW (As := [.ref x0, .int (xs ((5 * j) + 1)), .int (xs ((5 * j) + 2)), .int (xs ((5 * j) + 3)), .int (xs ((5 * j) + 4)), .ref o0]) (rest := []) ⟨hx, hb, hml, hown, hts⟩ (c_L_window l dD cI cR cS s.heap.size cL hfl H.size hS.1 x0 b o0 ra sb hd ol σ out hI hX hJ (xs ((5 * j) + 1)) (xs ((5 * j) + 2)) (xs ((5 * j) + 3)) (xs ((5 * j) + 4))) (vx_cwSW 6 hts gL_law_L_window rfl rfl rfl (by decide +kernel) ⟨Nat.le_of_ble_eq_true rfl, Nat.le_of_ble_eq_true rfl⟩) (lPreS hE hKL hS ⟨rfl, vP_app1 hP, vD_app1 hD⟩) rfl rfl hl.1 rfl (lv_room (Nat.le_of_ble_eq_true rfl)) dL_law_608 ⟨by simp only [room_1]; omega, by simp only [room_1]; omega⟩) hS (fun q _ h => hFc q h) hFc (fun r_ u_ t_ H1 locs ht_ hvm_ hw1 hB_ hz_ hk_ hS => ?_)
  obtain ⟨hP, hD⟩ := fr_join (w1 := (xoW cI cR cS cL x0 b o0 (σ, ra, sb, hd, ol, out))) (w1' := (xoW cI cR cS cL x0 b o0 u_)) (w2 := mW cI m0 a th σ) hP hD hAH hk_ (by rw [← ht_]; exact hB_.1) hB_.2
  obtain ⟨hw1, hok⟩ := hw1
  refine lv_istore (lv' := [(5, .int r_), (0, .ref bq), (1, .ref x0), (2, .ref m0), (3, .ref o0), (4, .int (nI (5 * j)))]) hx hb dL_law_611 hl (by decide) rfl (fun ls hl => ?_)
  refine lv_aload_n hx hb dL_law_613 rfl (lv_at hl 3 rfl) ?_
  refine lv_aload_n hx hb dL_law_614 rfl (lv_at hl 1 rfl) ?_
  refine lv_iload hx hb dL_law_615 (lv_at hl 5 rfl) ?_
  refine lv_iconst (v := nI 1) hx hb dL_law_617 (by decide +kernel) ?_
  refine nv_iadd hx hb dL_law_618 ?_
  refine nv_sld hx hb hXs hbl hbA hS (by omega) (by omega) dL_law_619 ?_
  refine lv_aload_n hx hb dL_law_620 rfl (lv_at hl 1 rfl) ?_
  refine lv_iload hx hb dL_law_621 (lv_at hl 5 rfl) ?_
  refine lv_iconst (v := nI 2) hx hb dL_law_623 (by decide +kernel) ?_
  refine nv_iadd hx hb dL_law_624 ?_
  refine nv_sld hx hb hXs hbl hbA hS (by omega) (by omega) dL_law_625 ?_
  refine lv_aload_n hx hb dL_law_626 rfl (lv_at hl 1 rfl) ?_
  refine lv_iload hx hb dL_law_627 (lv_at hl 5 rfl) ?_
  refine lv_iconst (v := nI 3) hx hb dL_law_629 (by decide +kernel) ?_
  refine nv_iadd hx hb dL_law_630 ?_
  refine nv_sld hx hb hXs hbl hbA hS (by omega) (by omega) dL_law_631 ?_
  refine lv_aload_n hx hb dL_law_632 rfl (lv_at hl 1 rfl) ?_
  refine lv_iload hx hb dL_law_633 (lv_at hl 5 rfl) ?_
  refine lv_iconst (v := nI 4) hx hb dL_law_635 (by decide +kernel) ?_
  refine nv_iadd hx hb dL_law_636 ?_
  refine nv_sld hx hb hXs hbl hbA hS (by omega) (by omega) dL_law_637 ?_
  have hAH : ∀ q : Nat, H1.size ≤ q → s.heap.size ≤ q := fun q h => Nat.le_trans hS.1 h
  have hFc := fr_freeR (w1 := mW cI m0 a th σ) (w2 := (xoW cI cR cS cL x0 b o0 u_)) hD hAH
  refine va_calli (va_runV (As := [.int (xs ((5 * j) + 1)), .int (xs ((5 * j) + 2)), .int (xs ((5 * j) + 3)), .int (xs ((5 * j) + 4))]) (rest := []) ⟨hx, hb, hml, hown, hts⟩ (c_X3_window l dD cI cR cS s.heap.size H1.size hS.1 m0 a th σ hI (xs ((5 * j) + 1)) (xs ((5 * j) + 2)) (xs ((5 * j) + 3)) (xs ((5 * j) + 4))) (cwV 4 hts gL_law_X3_window rfl rfl rfl (by decide +kernel) ⟨Nat.le_of_ble_eq_true rfl, Nat.le_of_ble_eq_true rfl⟩) (ePreV hE hS (vP_app2 (w1 := (xoW cI cR cS cL x0 b o0 u_)) hP) (k := 0) rfl rfl ⟨rfl, vP_app2 (w1 := (xoW cI cR cS cL x0 b o0 u_)) hP, vD_app2 (w1 := (xoW cI cR cS cL x0 b o0 u_)) hD⟩) rfl rfl hl.1 rfl (lv_room (Nat.le_of_ble_eq_true rfl)) dL_law_638 ⟨by simp only [room_1]; omega, by simp only [room_1]; omega⟩) hS (fun q _ h => hFc q h) hFc (fun r_638 u_638 t_ H1 locs ht_ hvm_ hw_638 hB_ hz_ hk_ hS => ?_)
  obtain ⟨hP, hD⟩ := fr_joinR (w1 := mW cI m0 a th σ) (w1' := mW cI m0 a u_638.1 u_638.2) (w2 := (xoW cI cR cS cL x0 b o0 u_)) hP hD hAH hk_ (by rw [← ht_]; exact hB_) (va_D_fst (vD_app2 (w1 := (xoW cI cR cS cL x0 b o0 u_)) hD).self rfl)
  obtain ⟨th3, σ3⟩ := u_638
  rcases hw1 with ⟨g1, g2, g3, rfl, g5⟩ | ⟨g1, g3, rfl⟩ | ⟨g1, g2, g3, rfl⟩
  · rcases hw_638 with ⟨f1, f2, f3, f4⟩ | ⟨f1, f3⟩ | ⟨f1, f2, f3⟩
    · obtain ⟨rfl, hs3⟩ := Prod.mk.inj f3
      have hs : u_.1 = σ3 := g3.trans hs3.symm
      have hI3 : sI σ3 := by rw [← hs]; exact hok.1
      have hP : va_P dD vwCl ((xoW cI cR cS cL x0 b o0 u_) ++ mW cI m0 a 0 σ3) H1 := hP
      have hD : va_D (fun q => s.heap.size ≤ q) ((xoW cI cR cS cL x0 b o0 u_) ++ mW cI m0 a 0 σ3) := hD
      have hout : u_.2.2.2.2.2 0 = (r_638).toInt64 := by rw [g5, f4]
      refine lv_istore (lv' := [(6, .int r_638), (5, .int (nI 0)), (0, .ref bq), (1, .ref x0), (2, .ref m0), (3, .ref o0), (4, .int (nI (5 * j)))]) hx hb dL_law_641 hl (by decide) rfl (fun ls hl => ?_)
      refine lv_aload_n hx hb dL_law_643 rfl (lv_at hl 4 rfl) ?_
      have hAH : ∀ q : Nat, H1.size ≤ q → s.heap.size ≤ q := fun q h => Nat.le_trans hS.1 h
      have hFc := fr_freeR (w1 := mW cI m0 a 0 σ3) (w2 := (xoW cI cR cS cL x0 b o0 u_)) hD hAH
      refine va_calli (va_runV (As := []) (rest := []) ⟨hx, hb, hml, hown, hts⟩ (c_X3_thrown l dD cI cR cS s.heap.size H1.size hS.1 m0 a 0 σ3 hI3 ) (cwV 0 hts gL_law_X3_thrown rfl rfl rfl (by decide +kernel) ⟨Nat.le_of_ble_eq_true rfl, Nat.le_of_ble_eq_true rfl⟩) (ePreV hE hS (vP_app2 (w1 := (xoW cI cR cS cL x0 b o0 u_)) hP) (k := 0) rfl rfl ⟨rfl, vP_app2 (w1 := (xoW cI cR cS cL x0 b o0 u_)) hP, vD_app2 (w1 := (xoW cI cR cS cL x0 b o0 u_)) hD⟩) rfl rfl hl.1 rfl (lv_room (Nat.le_of_ble_eq_true rfl)) dL_law_644 ⟨by simp only [room_1]; omega, by simp only [room_1]; omega⟩) hS (fun q _ h => hFc q h) hFc (fun r_644 u_644 t_ H1 locs ht_ hvm_ hw_644 hB_ hz_ hk_ hS => ?_)
      obtain ⟨hP, hD⟩ := fr_joinR (w1 := mW cI m0 a 0 σ3) (w1' := mW cI m0 a u_644.1 u_644.2) (w2 := (xoW cI cR cS cL x0 b o0 u_)) hP hD hAH hk_ (by rw [← ht_]; exact hB_) (va_D_fst (vD_app2 (w1 := (xoW cI cR cS cL x0 b o0 u_)) hD).self rfl)
      obtain ⟨f5, rfl⟩ := hw_644
      have hP : va_P dD vwCl ((xoW cI cR cS cL x0 b o0 u_) ++ mW cI m0 a 0 σ3) H1 := by rw [f5] at hP; exact hP
      have hD : va_D (fun q => s.heap.size ≤ q) ((xoW cI cR cS cL x0 b o0 u_) ++ mW cI m0 a 0 σ3) := by rw [f5] at hD; exact hD
      refine lv_iload hx hb dL_law_647 (lv_at hl 1 rfl) ?_
      refine nv_eq (tgt := 654) hx hb dL_law_649 (by decide) (by decide) (by decide) (fun c_649 => ?_) (fun c_649 => absurd c_649 (by decide))
      refine lv_iload hx hb dL_law_654 (lv_at hl 1 rfl) ?_
      refine nv_if_ne (tgt := 671) hx hb dL_law_656 (by decide) (by decide) (fun c_656 => absurd c_656 (by decide)) (fun c_656 => ?_)
      refine lv_aload_n hx hb dL_law_659 rfl (lv_at hl 5 rfl) ?_
      refine lv_iconst (v := nI 0) hx hb dL_law_660 (by decide +kernel) ?_
      refine va_lald hx hb hKL hP 0 0 rfl rfl (vp_in_nI (by decide) (by decide)) dL_law_661 ?_
      rw [show (nI 0).toNatClampNeg = 0 from by decide, hout]
      refine lv_iload hx hb dL_law_662 (lv_at hl 0 rfl) ?_
      refine lv_i2l (v := (r_638).toInt64) hx hb dL_law_664 rfl ?_
      refine W.lcmp hx hb dL_law_665 ?_
      rw [lg_self]
      refine lv_if_eq (tgt := 671) hx hb dL_law_666 (by decide) (fun c_666 => ?_) (fun c_666 => absurd rfl c_666)
      refine lv_goto (tgt := 1277) hx hb dL_law_671 (by decide) ?_
      refine W.widen (k := 108 + 8 * j) (n := 3064 + 64 * j) (by omega) (by omega) ?_
      exact hn u_ 0 H1 locs hok (by rw [hs]; exact hP) (by rw [hs]; exact hD) hS ls (lv_sub hl [2, 3, 4, 5, 6] rfl)
    · exact absurd g1 f1
    · exact absurd g2 f2
  · rcases hw_638 with ⟨f1, f2, f3, f4⟩ | ⟨f1, f3⟩ | ⟨f1, f2, f3⟩
    · exact absurd f1 g1
    · obtain ⟨rfl, hs3⟩ := Prod.mk.inj f3
      have hs : u_.1 = σ3 := g3.trans hs3.symm
      have hI3 : sI σ3 := by rw [← hs]; exact hok.1
      have hP : va_P dD vwCl ((xoW cI cR cS cL x0 b o0 u_) ++ mW cI m0 a 1 σ3) H1 := hP
      have hD : va_D (fun q => s.heap.size ≤ q) ((xoW cI cR cS cL x0 b o0 u_) ++ mW cI m0 a 1 σ3) := hD
      refine lv_istore (lv' := [(6, .int r_638), (5, .int (nI 1)), (0, .ref bq), (1, .ref x0), (2, .ref m0), (3, .ref o0), (4, .int (nI (5 * j)))]) hx hb dL_law_641 hl (by decide) rfl (fun ls hl => ?_)
      refine lv_aload_n hx hb dL_law_643 rfl (lv_at hl 4 rfl) ?_
      have hAH : ∀ q : Nat, H1.size ≤ q → s.heap.size ≤ q := fun q h => Nat.le_trans hS.1 h
      have hFc := fr_freeR (w1 := mW cI m0 a 1 σ3) (w2 := (xoW cI cR cS cL x0 b o0 u_)) hD hAH
      refine va_calli (va_runV (As := []) (rest := []) ⟨hx, hb, hml, hown, hts⟩ (c_X3_thrown l dD cI cR cS s.heap.size H1.size hS.1 m0 a 1 σ3 hI3 ) (cwV 0 hts gL_law_X3_thrown rfl rfl rfl (by decide +kernel) ⟨Nat.le_of_ble_eq_true rfl, Nat.le_of_ble_eq_true rfl⟩) (ePreV hE hS (vP_app2 (w1 := (xoW cI cR cS cL x0 b o0 u_)) hP) (k := 0) rfl rfl ⟨rfl, vP_app2 (w1 := (xoW cI cR cS cL x0 b o0 u_)) hP, vD_app2 (w1 := (xoW cI cR cS cL x0 b o0 u_)) hD⟩) rfl rfl hl.1 rfl (lv_room (Nat.le_of_ble_eq_true rfl)) dL_law_644 ⟨by simp only [room_1]; omega, by simp only [room_1]; omega⟩) hS (fun q _ h => hFc q h) hFc (fun r_644 u_644 t_ H1 locs ht_ hvm_ hw_644 hB_ hz_ hk_ hS => ?_)
      obtain ⟨hP, hD⟩ := fr_joinR (w1 := mW cI m0 a 1 σ3) (w1' := mW cI m0 a u_644.1 u_644.2) (w2 := (xoW cI cR cS cL x0 b o0 u_)) hP hD hAH hk_ (by rw [← ht_]; exact hB_) (va_D_fst (vD_app2 (w1 := (xoW cI cR cS cL x0 b o0 u_)) hD).self rfl)
      obtain ⟨f5, rfl⟩ := hw_644
      have hP : va_P dD vwCl ((xoW cI cR cS cL x0 b o0 u_) ++ mW cI m0 a 1 σ3) H1 := by rw [f5] at hP; exact hP
      have hD : va_D (fun q => s.heap.size ≤ q) ((xoW cI cR cS cL x0 b o0 u_) ++ mW cI m0 a 1 σ3) := by rw [f5] at hD; exact hD
      refine lv_iload hx hb dL_law_647 (lv_at hl 1 rfl) ?_
      refine nv_eq (tgt := 654) hx hb dL_law_649 (by decide) (by decide) (by decide) (fun c_649 => ?_) (fun c_649 => absurd c_649 (by decide))
      refine lv_iload hx hb dL_law_654 (lv_at hl 1 rfl) ?_
      refine nv_if_ne (tgt := 671) hx hb dL_law_656 (by decide) (by decide) (fun c_656 => ?_) (fun c_656 => absurd c_656 (by decide))
      refine lv_goto (tgt := 1277) hx hb dL_law_671 (by decide) ?_
      refine W.widen (k := 108 + 8 * j) (n := 3064 + 64 * j) (by omega) (by omega) ?_
      exact hn u_ 1 H1 locs hok (by rw [hs]; exact hP) (by rw [hs]; exact hD) hS ls (lv_sub hl [2, 3, 4, 5, 6] rfl)
    · exact absurd f1 g1
  · rcases hw_638 with ⟨f1, f2, f3, f4⟩ | ⟨f1, f3⟩ | ⟨f1, f2, f3⟩
    · exact absurd f2 g2
    · exact absurd g1 f1
    · obtain ⟨rfl, hs3⟩ := Prod.mk.inj f3
      have hs : u_.1 = σ3 := g3.trans hs3.symm
      have hI3 : sI σ3 := by rw [← hs]; exact hok.1
      have hP : va_P dD vwCl ((xoW cI cR cS cL x0 b o0 u_) ++ mW cI m0 a 2 σ3) H1 := hP
      have hD : va_D (fun q => s.heap.size ≤ q) ((xoW cI cR cS cL x0 b o0 u_) ++ mW cI m0 a 2 σ3) := hD
      refine lv_istore (lv' := [(6, .int r_638), (5, .int (nI 2)), (0, .ref bq), (1, .ref x0), (2, .ref m0), (3, .ref o0), (4, .int (nI (5 * j)))]) hx hb dL_law_641 hl (by decide) rfl (fun ls hl => ?_)
      refine lv_aload_n hx hb dL_law_643 rfl (lv_at hl 4 rfl) ?_
      have hAH : ∀ q : Nat, H1.size ≤ q → s.heap.size ≤ q := fun q h => Nat.le_trans hS.1 h
      have hFc := fr_freeR (w1 := mW cI m0 a 2 σ3) (w2 := (xoW cI cR cS cL x0 b o0 u_)) hD hAH
      refine va_calli (va_runV (As := []) (rest := []) ⟨hx, hb, hml, hown, hts⟩ (c_X3_thrown l dD cI cR cS s.heap.size H1.size hS.1 m0 a 2 σ3 hI3 ) (cwV 0 hts gL_law_X3_thrown rfl rfl rfl (by decide +kernel) ⟨Nat.le_of_ble_eq_true rfl, Nat.le_of_ble_eq_true rfl⟩) (ePreV hE hS (vP_app2 (w1 := (xoW cI cR cS cL x0 b o0 u_)) hP) (k := 0) rfl rfl ⟨rfl, vP_app2 (w1 := (xoW cI cR cS cL x0 b o0 u_)) hP, vD_app2 (w1 := (xoW cI cR cS cL x0 b o0 u_)) hD⟩) rfl rfl hl.1 rfl (lv_room (Nat.le_of_ble_eq_true rfl)) dL_law_644 ⟨by simp only [room_1]; omega, by simp only [room_1]; omega⟩) hS (fun q _ h => hFc q h) hFc (fun r_644 u_644 t_ H1 locs ht_ hvm_ hw_644 hB_ hz_ hk_ hS => ?_)
      obtain ⟨hP, hD⟩ := fr_joinR (w1 := mW cI m0 a 2 σ3) (w1' := mW cI m0 a u_644.1 u_644.2) (w2 := (xoW cI cR cS cL x0 b o0 u_)) hP hD hAH hk_ (by rw [← ht_]; exact hB_) (va_D_fst (vD_app2 (w1 := (xoW cI cR cS cL x0 b o0 u_)) hD).self rfl)
      obtain ⟨f5, rfl⟩ := hw_644
      have hP : va_P dD vwCl ((xoW cI cR cS cL x0 b o0 u_) ++ mW cI m0 a 2 σ3) H1 := by rw [f5] at hP; exact hP
      have hD : va_D (fun q => s.heap.size ≤ q) ((xoW cI cR cS cL x0 b o0 u_) ++ mW cI m0 a 2 σ3) := by rw [f5] at hD; exact hD
      refine lv_iload hx hb dL_law_647 (lv_at hl 1 rfl) ?_
      refine nv_eq (tgt := 654) hx hb dL_law_649 (by decide) (by decide) (by decide) (fun c_649 => ?_) (fun c_649 => absurd c_649 (by decide))
      refine lv_iload hx hb dL_law_654 (lv_at hl 1 rfl) ?_
      refine nv_if_ne (tgt := 671) hx hb dL_law_656 (by decide) (by decide) (fun c_656 => ?_) (fun c_656 => absurd c_656 (by decide))
      refine lv_goto (tgt := 1277) hx hb dL_law_671 (by decide) ?_
      refine W.widen (k := 108 + 8 * j) (n := 3064 + 64 * j) (by omega) (by omega) ?_
      exact hn u_ 2 H1 locs hok (by rw [hs]; exact hP) (by rw [hs]; exact hD) hS ls (lv_sub hl [2, 3, 4, 5, 6] rfl)

set_option maxHeartbeats 4000000 in
set_option maxRecDepth 100000 in
theorem law_greatestTile {p : Program} {l : Launch} {e_ : Env} {s : State} {m : MethodId} {below : List Frame} {meth : Method} {c : Code} {bq L : Nat} {xs : Nat → Int32} (hL : L ≤ 2560) (C0 : lw_At p s m meth c bq L xs) (hfl : l.stackTraces = false) {dD : va_G} {cI cR cS cL : ClassId} (hE : eE dD cI cR cS s.heap.size s s.heap) (hKL : va_K dD vwCl [(cL, .long)] s) {x0 m0 o0 : Nat} {b a : Nat → Nat} {j : Nat} (hj : 5 * j + 5 ≤ L) (hn : lS p l e_ s m below meth c bq dD cI cR cS cL x0 m0 o0 b a j (108 + 8 * j) (3064 + 64 * j) 1277) : lS p l e_ s m below meth c bq dD cI cR cS cL x0 m0 o0 b a j (100 + 8 * j) (3000 + 64 * j) 674 := by
  obtain ⟨hx, hb, -, hml, hown, hts, hXs, hbl, hlocks, -⟩ := id C0
  have hown : s.vm.findClass RL = some m.cls := hown
  have hts : ∀ w ∈ wsL_law, w.before #[Value.ref bq] s = true := fun w h => hts w (wsL_law_in w h)
  have hbA : ¬ (fun q : Nat => s.heap.size ≤ q) bq := Nat.not_le.mpr hbl
  have hK := hE.1.1
  intro u th H locs hu hP hD hS ls hl
  obtain ⟨σ, ra, sb, hd, ol, out⟩ := u
  obtain ⟨hI, hX, hJ⟩ := hu
  have hI : sI σ := hI
  have hX : xI σ hd ol := hX
  have hJ : xJ σ hd ol := hJ
  have hP : va_P dD vwCl ((xoW cI cR cS cL x0 b o0 (σ, ra, sb, hd, ol, out)) ++ mW cI m0 a th σ) H := hP
  have hD : va_D (fun q => s.heap.size ≤ q) ((xoW cI cR cS cL x0 b o0 (σ, ra, sb, hd, ol, out)) ++ mW cI m0 a th σ) := hD
  refine lv_aload_n hx hb dL_law_674 rfl (lv_at hl 1 rfl) ?_
  refine lv_aload_n hx hb dL_law_675 rfl (lv_at hl 0 rfl) ?_
  refine lv_iload hx hb dL_law_676 (lv_at hl 4 rfl) ?_
  refine lv_iconst (v := nI 1) hx hb dL_law_678 (by decide +kernel) ?_
  refine nv_iadd hx hb dL_law_679 ?_
  refine nv_sld hx hb hXs hbl hbA hS (by omega) (by omega) dL_law_680 ?_
  refine lv_aload_n hx hb dL_law_681 rfl (lv_at hl 0 rfl) ?_
  refine lv_iload hx hb dL_law_682 (lv_at hl 4 rfl) ?_
  refine lv_iconst (v := nI 2) hx hb dL_law_684 (by decide +kernel) ?_
  refine nv_iadd hx hb dL_law_685 ?_
  refine nv_sld hx hb hXs hbl hbA hS (by omega) (by omega) dL_law_686 ?_
  refine lv_aload_n hx hb dL_law_687 rfl (lv_at hl 0 rfl) ?_
  refine lv_iload hx hb dL_law_688 (lv_at hl 4 rfl) ?_
  refine lv_iconst (v := nI 3) hx hb dL_law_690 (by decide +kernel) ?_
  refine nv_iadd hx hb dL_law_691 ?_
  refine nv_sld hx hb hXs hbl hbA hS (by omega) (by omega) dL_law_692 ?_
  refine lv_aload_n hx hb dL_law_693 rfl (lv_at hl 3 rfl) ?_
  have hAH : ∀ q : Nat, H.size ≤ q → s.heap.size ≤ q := fun q h => Nat.le_trans hS.1 h
  have hFc := fr_free (w1 := (xoW cI cR cS cL x0 b o0 (σ, ra, sb, hd, ol, out))) (w2 := mW cI m0 a th σ) hD hAH
  refine va_calli (vx_runSW (As := [.ref x0, .int (xs ((5 * j) + 1)), .int (xs ((5 * j) + 2)), .int (xs ((5 * j) + 3)), .ref o0]) (rest := []) ⟨hx, hb, hml, hown, hts⟩ (c_L_greatestTile l dD cI cR cS s.heap.size cL hfl H.size hS.1 x0 b o0 ra sb hd ol σ out hI hX hJ (xs ((5 * j) + 1)) (xs ((5 * j) + 2)) (xs ((5 * j) + 3))) (vx_cwSW 5 hts gL_law_L_greatestTile rfl rfl rfl (by decide +kernel) ⟨Nat.le_of_ble_eq_true rfl, Nat.le_of_ble_eq_true rfl⟩) (lPreS hE hKL hS ⟨rfl, vP_app1 hP, vD_app1 hD⟩) rfl rfl hl.1 rfl (lv_room (Nat.le_of_ble_eq_true rfl)) dL_law_694 ⟨by simp only [room_1]; omega, by simp only [room_1]; omega⟩) hS (fun q _ h => hFc q h) hFc (fun r_ u_ t_ H1 locs ht_ hvm_ hw1 hB_ hz_ hk_ hS => ?_)
  obtain ⟨hP, hD⟩ := fr_join (w1 := (xoW cI cR cS cL x0 b o0 (σ, ra, sb, hd, ol, out))) (w1' := (xoW cI cR cS cL x0 b o0 u_)) (w2 := mW cI m0 a th σ) hP hD hAH hk_ (by rw [← ht_]; exact hB_.1) hB_.2
  obtain ⟨hw1, hok⟩ := hw1
  refine lv_istore (lv' := [(5, .int r_), (0, .ref bq), (1, .ref x0), (2, .ref m0), (3, .ref o0), (4, .int (nI (5 * j)))]) hx hb dL_law_697 hl (by decide) rfl (fun ls hl => ?_)
  refine lv_aload_n hx hb dL_law_699 rfl (lv_at hl 3 rfl) ?_
  refine lv_aload_n hx hb dL_law_700 rfl (lv_at hl 1 rfl) ?_
  refine lv_iload hx hb dL_law_701 (lv_at hl 5 rfl) ?_
  refine lv_iconst (v := nI 1) hx hb dL_law_703 (by decide +kernel) ?_
  refine nv_iadd hx hb dL_law_704 ?_
  refine nv_sld hx hb hXs hbl hbA hS (by omega) (by omega) dL_law_705 ?_
  refine lv_aload_n hx hb dL_law_706 rfl (lv_at hl 1 rfl) ?_
  refine lv_iload hx hb dL_law_707 (lv_at hl 5 rfl) ?_
  refine lv_iconst (v := nI 2) hx hb dL_law_709 (by decide +kernel) ?_
  refine nv_iadd hx hb dL_law_710 ?_
  refine nv_sld hx hb hXs hbl hbA hS (by omega) (by omega) dL_law_711 ?_
  refine lv_aload_n hx hb dL_law_712 rfl (lv_at hl 1 rfl) ?_
  refine lv_iload hx hb dL_law_713 (lv_at hl 5 rfl) ?_
  refine lv_iconst (v := nI 3) hx hb dL_law_715 (by decide +kernel) ?_
  refine nv_iadd hx hb dL_law_716 ?_
  refine nv_sld hx hb hXs hbl hbA hS (by omega) (by omega) dL_law_717 ?_
  have hAH : ∀ q : Nat, H1.size ≤ q → s.heap.size ≤ q := fun q h => Nat.le_trans hS.1 h
  have hFc := fr_freeR (w1 := mW cI m0 a th σ) (w2 := (xoW cI cR cS cL x0 b o0 u_)) hD hAH
  refine va_calli (va_runV (As := [.int (xs ((5 * j) + 1)), .int (xs ((5 * j) + 2)), .int (xs ((5 * j) + 3))]) (rest := []) ⟨hx, hb, hml, hown, hts⟩ (c_X3_greatestTile l dD cI cR cS s.heap.size H1.size hS.1 m0 a th σ hI (xs ((5 * j) + 1)) (xs ((5 * j) + 2)) (xs ((5 * j) + 3))) (cwV 3 hts gL_law_X3_greatestTile rfl rfl rfl (by decide +kernel) ⟨Nat.le_of_ble_eq_true rfl, Nat.le_of_ble_eq_true rfl⟩) (ePreV hE hS (vP_app2 (w1 := (xoW cI cR cS cL x0 b o0 u_)) hP) (k := 0) rfl rfl ⟨rfl, vP_app2 (w1 := (xoW cI cR cS cL x0 b o0 u_)) hP, vD_app2 (w1 := (xoW cI cR cS cL x0 b o0 u_)) hD⟩) rfl rfl hl.1 rfl (lv_room (Nat.le_of_ble_eq_true rfl)) dL_law_718 ⟨by simp only [room_1]; omega, by simp only [room_1]; omega⟩) hS (fun q _ h => hFc q h) hFc (fun r_718 u_718 t_ H1 locs ht_ hvm_ hw_718 hB_ hz_ hk_ hS => ?_)
  obtain ⟨hP, hD⟩ := fr_joinR (w1 := mW cI m0 a th σ) (w1' := mW cI m0 a u_718.1 u_718.2) (w2 := (xoW cI cR cS cL x0 b o0 u_)) hP hD hAH hk_ (by rw [← ht_]; exact hB_) (va_D_fst (vD_app2 (w1 := (xoW cI cR cS cL x0 b o0 u_)) hD).self rfl)
  obtain ⟨th3, σ3⟩ := u_718
  rcases hw1 with ⟨g1, g2, g3, rfl, g5⟩ | ⟨g1, g3, rfl⟩ | ⟨g1, g2, g3, rfl⟩
  · rcases hw_718 with ⟨f1, f2, f3, f4⟩ | ⟨f1, f3⟩ | ⟨f1, f2, f3⟩
    · obtain ⟨rfl, hs3⟩ := Prod.mk.inj f3
      have hs : u_.1 = σ3 := g3.trans hs3.symm
      have hI3 : sI σ3 := by rw [← hs]; exact hok.1
      have hP : va_P dD vwCl ((xoW cI cR cS cL x0 b o0 u_) ++ mW cI m0 a 0 σ3) H1 := hP
      have hD : va_D (fun q => s.heap.size ≤ q) ((xoW cI cR cS cL x0 b o0 u_) ++ mW cI m0 a 0 σ3) := hD
      have hout : u_.2.2.2.2.2 0 = (r_718).toInt64 := by rw [g5, f4]
      refine lv_istore (lv' := [(6, .int r_718), (5, .int (nI 0)), (0, .ref bq), (1, .ref x0), (2, .ref m0), (3, .ref o0), (4, .int (nI (5 * j)))]) hx hb dL_law_721 hl (by decide) rfl (fun ls hl => ?_)
      refine lv_aload_n hx hb dL_law_723 rfl (lv_at hl 4 rfl) ?_
      have hAH : ∀ q : Nat, H1.size ≤ q → s.heap.size ≤ q := fun q h => Nat.le_trans hS.1 h
      have hFc := fr_freeR (w1 := mW cI m0 a 0 σ3) (w2 := (xoW cI cR cS cL x0 b o0 u_)) hD hAH
      refine va_calli (va_runV (As := []) (rest := []) ⟨hx, hb, hml, hown, hts⟩ (c_X3_thrown l dD cI cR cS s.heap.size H1.size hS.1 m0 a 0 σ3 hI3 ) (cwV 0 hts gL_law_X3_thrown rfl rfl rfl (by decide +kernel) ⟨Nat.le_of_ble_eq_true rfl, Nat.le_of_ble_eq_true rfl⟩) (ePreV hE hS (vP_app2 (w1 := (xoW cI cR cS cL x0 b o0 u_)) hP) (k := 0) rfl rfl ⟨rfl, vP_app2 (w1 := (xoW cI cR cS cL x0 b o0 u_)) hP, vD_app2 (w1 := (xoW cI cR cS cL x0 b o0 u_)) hD⟩) rfl rfl hl.1 rfl (lv_room (Nat.le_of_ble_eq_true rfl)) dL_law_724 ⟨by simp only [room_1]; omega, by simp only [room_1]; omega⟩) hS (fun q _ h => hFc q h) hFc (fun r_724 u_724 t_ H1 locs ht_ hvm_ hw_724 hB_ hz_ hk_ hS => ?_)
      obtain ⟨hP, hD⟩ := fr_joinR (w1 := mW cI m0 a 0 σ3) (w1' := mW cI m0 a u_724.1 u_724.2) (w2 := (xoW cI cR cS cL x0 b o0 u_)) hP hD hAH hk_ (by rw [← ht_]; exact hB_) (va_D_fst (vD_app2 (w1 := (xoW cI cR cS cL x0 b o0 u_)) hD).self rfl)
      obtain ⟨f5, rfl⟩ := hw_724
      have hP : va_P dD vwCl ((xoW cI cR cS cL x0 b o0 u_) ++ mW cI m0 a 0 σ3) H1 := by rw [f5] at hP; exact hP
      have hD : va_D (fun q => s.heap.size ≤ q) ((xoW cI cR cS cL x0 b o0 u_) ++ mW cI m0 a 0 σ3) := by rw [f5] at hD; exact hD
      refine lv_iload hx hb dL_law_727 (lv_at hl 1 rfl) ?_
      refine nv_eq (tgt := 734) hx hb dL_law_729 (by decide) (by decide) (by decide) (fun c_729 => ?_) (fun c_729 => absurd c_729 (by decide))
      refine lv_iload hx hb dL_law_734 (lv_at hl 1 rfl) ?_
      refine nv_if_ne (tgt := 751) hx hb dL_law_736 (by decide) (by decide) (fun c_736 => absurd c_736 (by decide)) (fun c_736 => ?_)
      refine lv_aload_n hx hb dL_law_739 rfl (lv_at hl 5 rfl) ?_
      refine lv_iconst (v := nI 0) hx hb dL_law_740 (by decide +kernel) ?_
      refine va_lald hx hb hKL hP 0 0 rfl rfl (vp_in_nI (by decide) (by decide)) dL_law_741 ?_
      rw [show (nI 0).toNatClampNeg = 0 from by decide, hout]
      refine lv_iload hx hb dL_law_742 (lv_at hl 0 rfl) ?_
      refine lv_i2l (v := (r_718).toInt64) hx hb dL_law_744 rfl ?_
      refine W.lcmp hx hb dL_law_745 ?_
      rw [lg_self]
      refine lv_if_eq (tgt := 751) hx hb dL_law_746 (by decide) (fun c_746 => ?_) (fun c_746 => absurd rfl c_746)
      refine lv_goto (tgt := 1277) hx hb dL_law_751 (by decide) ?_
      refine W.widen (k := 108 + 8 * j) (n := 3064 + 64 * j) (by omega) (by omega) ?_
      exact hn u_ 0 H1 locs hok (by rw [hs]; exact hP) (by rw [hs]; exact hD) hS ls (lv_sub hl [2, 3, 4, 5, 6] rfl)
    · exact absurd g1 f1
    · exact absurd g2 f2
  · rcases hw_718 with ⟨f1, f2, f3, f4⟩ | ⟨f1, f3⟩ | ⟨f1, f2, f3⟩
    · exact absurd f1 g1
    · obtain ⟨rfl, hs3⟩ := Prod.mk.inj f3
      have hs : u_.1 = σ3 := g3.trans hs3.symm
      have hI3 : sI σ3 := by rw [← hs]; exact hok.1
      have hP : va_P dD vwCl ((xoW cI cR cS cL x0 b o0 u_) ++ mW cI m0 a 1 σ3) H1 := hP
      have hD : va_D (fun q => s.heap.size ≤ q) ((xoW cI cR cS cL x0 b o0 u_) ++ mW cI m0 a 1 σ3) := hD
      refine lv_istore (lv' := [(6, .int r_718), (5, .int (nI 1)), (0, .ref bq), (1, .ref x0), (2, .ref m0), (3, .ref o0), (4, .int (nI (5 * j)))]) hx hb dL_law_721 hl (by decide) rfl (fun ls hl => ?_)
      refine lv_aload_n hx hb dL_law_723 rfl (lv_at hl 4 rfl) ?_
      have hAH : ∀ q : Nat, H1.size ≤ q → s.heap.size ≤ q := fun q h => Nat.le_trans hS.1 h
      have hFc := fr_freeR (w1 := mW cI m0 a 1 σ3) (w2 := (xoW cI cR cS cL x0 b o0 u_)) hD hAH
      refine va_calli (va_runV (As := []) (rest := []) ⟨hx, hb, hml, hown, hts⟩ (c_X3_thrown l dD cI cR cS s.heap.size H1.size hS.1 m0 a 1 σ3 hI3 ) (cwV 0 hts gL_law_X3_thrown rfl rfl rfl (by decide +kernel) ⟨Nat.le_of_ble_eq_true rfl, Nat.le_of_ble_eq_true rfl⟩) (ePreV hE hS (vP_app2 (w1 := (xoW cI cR cS cL x0 b o0 u_)) hP) (k := 0) rfl rfl ⟨rfl, vP_app2 (w1 := (xoW cI cR cS cL x0 b o0 u_)) hP, vD_app2 (w1 := (xoW cI cR cS cL x0 b o0 u_)) hD⟩) rfl rfl hl.1 rfl (lv_room (Nat.le_of_ble_eq_true rfl)) dL_law_724 ⟨by simp only [room_1]; omega, by simp only [room_1]; omega⟩) hS (fun q _ h => hFc q h) hFc (fun r_724 u_724 t_ H1 locs ht_ hvm_ hw_724 hB_ hz_ hk_ hS => ?_)
      obtain ⟨hP, hD⟩ := fr_joinR (w1 := mW cI m0 a 1 σ3) (w1' := mW cI m0 a u_724.1 u_724.2) (w2 := (xoW cI cR cS cL x0 b o0 u_)) hP hD hAH hk_ (by rw [← ht_]; exact hB_) (va_D_fst (vD_app2 (w1 := (xoW cI cR cS cL x0 b o0 u_)) hD).self rfl)
      obtain ⟨f5, rfl⟩ := hw_724
      have hP : va_P dD vwCl ((xoW cI cR cS cL x0 b o0 u_) ++ mW cI m0 a 1 σ3) H1 := by rw [f5] at hP; exact hP
      have hD : va_D (fun q => s.heap.size ≤ q) ((xoW cI cR cS cL x0 b o0 u_) ++ mW cI m0 a 1 σ3) := by rw [f5] at hD; exact hD
      refine lv_iload hx hb dL_law_727 (lv_at hl 1 rfl) ?_
      refine nv_eq (tgt := 734) hx hb dL_law_729 (by decide) (by decide) (by decide) (fun c_729 => ?_) (fun c_729 => absurd c_729 (by decide))
      refine lv_iload hx hb dL_law_734 (lv_at hl 1 rfl) ?_
      refine nv_if_ne (tgt := 751) hx hb dL_law_736 (by decide) (by decide) (fun c_736 => ?_) (fun c_736 => absurd c_736 (by decide))
      refine lv_goto (tgt := 1277) hx hb dL_law_751 (by decide) ?_
      refine W.widen (k := 108 + 8 * j) (n := 3064 + 64 * j) (by omega) (by omega) ?_
      exact hn u_ 1 H1 locs hok (by rw [hs]; exact hP) (by rw [hs]; exact hD) hS ls (lv_sub hl [2, 3, 4, 5, 6] rfl)
    · exact absurd f1 g1
  · rcases hw_718 with ⟨f1, f2, f3, f4⟩ | ⟨f1, f3⟩ | ⟨f1, f2, f3⟩
    · exact absurd f2 g2
    · exact absurd g1 f1
    · obtain ⟨rfl, hs3⟩ := Prod.mk.inj f3
      have hs : u_.1 = σ3 := g3.trans hs3.symm
      have hI3 : sI σ3 := by rw [← hs]; exact hok.1
      have hP : va_P dD vwCl ((xoW cI cR cS cL x0 b o0 u_) ++ mW cI m0 a 2 σ3) H1 := hP
      have hD : va_D (fun q => s.heap.size ≤ q) ((xoW cI cR cS cL x0 b o0 u_) ++ mW cI m0 a 2 σ3) := hD
      refine lv_istore (lv' := [(6, .int r_718), (5, .int (nI 2)), (0, .ref bq), (1, .ref x0), (2, .ref m0), (3, .ref o0), (4, .int (nI (5 * j)))]) hx hb dL_law_721 hl (by decide) rfl (fun ls hl => ?_)
      refine lv_aload_n hx hb dL_law_723 rfl (lv_at hl 4 rfl) ?_
      have hAH : ∀ q : Nat, H1.size ≤ q → s.heap.size ≤ q := fun q h => Nat.le_trans hS.1 h
      have hFc := fr_freeR (w1 := mW cI m0 a 2 σ3) (w2 := (xoW cI cR cS cL x0 b o0 u_)) hD hAH
      refine va_calli (va_runV (As := []) (rest := []) ⟨hx, hb, hml, hown, hts⟩ (c_X3_thrown l dD cI cR cS s.heap.size H1.size hS.1 m0 a 2 σ3 hI3 ) (cwV 0 hts gL_law_X3_thrown rfl rfl rfl (by decide +kernel) ⟨Nat.le_of_ble_eq_true rfl, Nat.le_of_ble_eq_true rfl⟩) (ePreV hE hS (vP_app2 (w1 := (xoW cI cR cS cL x0 b o0 u_)) hP) (k := 0) rfl rfl ⟨rfl, vP_app2 (w1 := (xoW cI cR cS cL x0 b o0 u_)) hP, vD_app2 (w1 := (xoW cI cR cS cL x0 b o0 u_)) hD⟩) rfl rfl hl.1 rfl (lv_room (Nat.le_of_ble_eq_true rfl)) dL_law_724 ⟨by simp only [room_1]; omega, by simp only [room_1]; omega⟩) hS (fun q _ h => hFc q h) hFc (fun r_724 u_724 t_ H1 locs ht_ hvm_ hw_724 hB_ hz_ hk_ hS => ?_)
      obtain ⟨hP, hD⟩ := fr_joinR (w1 := mW cI m0 a 2 σ3) (w1' := mW cI m0 a u_724.1 u_724.2) (w2 := (xoW cI cR cS cL x0 b o0 u_)) hP hD hAH hk_ (by rw [← ht_]; exact hB_) (va_D_fst (vD_app2 (w1 := (xoW cI cR cS cL x0 b o0 u_)) hD).self rfl)
      obtain ⟨f5, rfl⟩ := hw_724
      have hP : va_P dD vwCl ((xoW cI cR cS cL x0 b o0 u_) ++ mW cI m0 a 2 σ3) H1 := by rw [f5] at hP; exact hP
      have hD : va_D (fun q => s.heap.size ≤ q) ((xoW cI cR cS cL x0 b o0 u_) ++ mW cI m0 a 2 σ3) := by rw [f5] at hD; exact hD
      refine lv_iload hx hb dL_law_727 (lv_at hl 1 rfl) ?_
      refine nv_eq (tgt := 734) hx hb dL_law_729 (by decide) (by decide) (by decide) (fun c_729 => ?_) (fun c_729 => absurd c_729 (by decide))
      refine lv_iload hx hb dL_law_734 (lv_at hl 1 rfl) ?_
      refine nv_if_ne (tgt := 751) hx hb dL_law_736 (by decide) (by decide) (fun c_736 => ?_) (fun c_736 => absurd c_736 (by decide))
      refine lv_goto (tgt := 1277) hx hb dL_law_751 (by decide) ?_
      refine W.widen (k := 108 + 8 * j) (n := 3064 + 64 * j) (by omega) (by omega) ?_
      exact hn u_ 2 H1 locs hok (by rw [hs]; exact hP) (by rw [hs]; exact hD) hS ls (lv_sub hl [2, 3, 4, 5, 6] rfl)

set_option maxHeartbeats 4000000 in
set_option maxRecDepth 100000 in
theorem law_tiles {p : Program} {l : Launch} {e_ : Env} {s : State} {m : MethodId} {below : List Frame} {meth : Method} {c : Code} {bq L : Nat} {xs : Nat → Int32} (hL : L ≤ 2560) (C0 : lw_At p s m meth c bq L xs) (hfl : l.stackTraces = false) {dD : va_G} {cI cR cS cL : ClassId} (hE : eE dD cI cR cS s.heap.size s s.heap) (hKL : va_K dD vwCl [(cL, .long)] s) {x0 m0 o0 : Nat} {b a : Nat → Nat} {j : Nat} (hj : 5 * j + 5 ≤ L) (hn : lS p l e_ s m below meth c bq dD cI cR cS cL x0 m0 o0 b a j (108 + 8 * j) (3064 + 64 * j) 1277) : lS p l e_ s m below meth c bq dD cI cR cS cL x0 m0 o0 b a j (100 + 8 * j) (3000 + 64 * j) 754 := by
  obtain ⟨hx, hb, -, hml, hown, hts, hXs, hbl, hlocks, -⟩ := id C0
  have hown : s.vm.findClass RL = some m.cls := hown
  have hts : ∀ w ∈ wsL_law, w.before #[Value.ref bq] s = true := fun w h => hts w (wsL_law_in w h)
  have hbA : ¬ (fun q : Nat => s.heap.size ≤ q) bq := Nat.not_le.mpr hbl
  have hK := hE.1.1
  intro u th H locs hu hP hD hS ls hl
  obtain ⟨σ, ra, sb, hd, ol, out⟩ := u
  obtain ⟨hI, hX, hJ⟩ := hu
  have hI : sI σ := hI
  have hX : xI σ hd ol := hX
  have hJ : xJ σ hd ol := hJ
  have hP : va_P dD vwCl ((xoW cI cR cS cL x0 b o0 (σ, ra, sb, hd, ol, out)) ++ mW cI m0 a th σ) H := hP
  have hD : va_D (fun q => s.heap.size ≤ q) ((xoW cI cR cS cL x0 b o0 (σ, ra, sb, hd, ol, out)) ++ mW cI m0 a th σ) := hD
  refine lv_aload_n hx hb dL_law_754 rfl (lv_at hl 1 rfl) ?_
  refine lv_aload_n hx hb dL_law_755 rfl (lv_at hl 0 rfl) ?_
  refine lv_iload hx hb dL_law_756 (lv_at hl 4 rfl) ?_
  refine lv_iconst (v := nI 1) hx hb dL_law_758 (by decide +kernel) ?_
  refine nv_iadd hx hb dL_law_759 ?_
  refine nv_sld hx hb hXs hbl hbA hS (by omega) (by omega) dL_law_760 ?_
  refine lv_aload_n hx hb dL_law_761 rfl (lv_at hl 0 rfl) ?_
  refine lv_iload hx hb dL_law_762 (lv_at hl 4 rfl) ?_
  refine lv_iconst (v := nI 2) hx hb dL_law_764 (by decide +kernel) ?_
  refine nv_iadd hx hb dL_law_765 ?_
  refine nv_sld hx hb hXs hbl hbA hS (by omega) (by omega) dL_law_766 ?_
  refine lv_aload_n hx hb dL_law_767 rfl (lv_at hl 0 rfl) ?_
  refine lv_iload hx hb dL_law_768 (lv_at hl 4 rfl) ?_
  refine lv_iconst (v := nI 3) hx hb dL_law_770 (by decide +kernel) ?_
  refine nv_iadd hx hb dL_law_771 ?_
  refine nv_sld hx hb hXs hbl hbA hS (by omega) (by omega) dL_law_772 ?_
  refine lv_aload_n hx hb dL_law_773 rfl (lv_at hl 3 rfl) ?_
  have hAH : ∀ q : Nat, H.size ≤ q → s.heap.size ≤ q := fun q h => Nat.le_trans hS.1 h
  have hFc := fr_free (w1 := (xoW cI cR cS cL x0 b o0 (σ, ra, sb, hd, ol, out))) (w2 := mW cI m0 a th σ) hD hAH
  refine va_calli (vx_runSW (As := [.ref x0, .int (xs ((5 * j) + 1)), .int (xs ((5 * j) + 2)), .int (xs ((5 * j) + 3)), .ref o0]) (rest := []) ⟨hx, hb, hml, hown, hts⟩ (c_L_tiles l dD cI cR cS s.heap.size cL hfl H.size hS.1 x0 b o0 ra sb hd ol σ out hI hX hJ (xs ((5 * j) + 1)) (xs ((5 * j) + 2)) (xs ((5 * j) + 3))) (vx_cwSW 5 hts gL_law_L_tiles rfl rfl rfl (by decide +kernel) ⟨Nat.le_of_ble_eq_true rfl, Nat.le_of_ble_eq_true rfl⟩) (lPreS hE hKL hS ⟨rfl, vP_app1 hP, vD_app1 hD⟩) rfl rfl hl.1 rfl (lv_room (Nat.le_of_ble_eq_true rfl)) dL_law_774 ⟨by simp only [room_1]; omega, by simp only [room_1]; omega⟩) hS (fun q _ h => hFc q h) hFc (fun r_ u_ t_ H1 locs ht_ hvm_ hw1 hB_ hz_ hk_ hS => ?_)
  obtain ⟨hP, hD⟩ := fr_join (w1 := (xoW cI cR cS cL x0 b o0 (σ, ra, sb, hd, ol, out))) (w1' := (xoW cI cR cS cL x0 b o0 u_)) (w2 := mW cI m0 a th σ) hP hD hAH hk_ (by rw [← ht_]; exact hB_.1) hB_.2
  obtain ⟨hw1, hok⟩ := hw1
  refine lv_istore (lv' := [(5, .int r_), (0, .ref bq), (1, .ref x0), (2, .ref m0), (3, .ref o0), (4, .int (nI (5 * j)))]) hx hb dL_law_777 hl (by decide) rfl (fun ls hl => ?_)
  refine lv_aload_n hx hb dL_law_779 rfl (lv_at hl 3 rfl) ?_
  refine lv_aload_n hx hb dL_law_780 rfl (lv_at hl 1 rfl) ?_
  refine lv_iload hx hb dL_law_781 (lv_at hl 5 rfl) ?_
  refine lv_iconst (v := nI 1) hx hb dL_law_783 (by decide +kernel) ?_
  refine nv_iadd hx hb dL_law_784 ?_
  refine nv_sld hx hb hXs hbl hbA hS (by omega) (by omega) dL_law_785 ?_
  refine lv_aload_n hx hb dL_law_786 rfl (lv_at hl 1 rfl) ?_
  refine lv_iload hx hb dL_law_787 (lv_at hl 5 rfl) ?_
  refine lv_iconst (v := nI 2) hx hb dL_law_789 (by decide +kernel) ?_
  refine nv_iadd hx hb dL_law_790 ?_
  refine nv_sld hx hb hXs hbl hbA hS (by omega) (by omega) dL_law_791 ?_
  refine lv_aload_n hx hb dL_law_792 rfl (lv_at hl 1 rfl) ?_
  refine lv_iload hx hb dL_law_793 (lv_at hl 5 rfl) ?_
  refine lv_iconst (v := nI 3) hx hb dL_law_795 (by decide +kernel) ?_
  refine nv_iadd hx hb dL_law_796 ?_
  refine nv_sld hx hb hXs hbl hbA hS (by omega) (by omega) dL_law_797 ?_
  have hAH : ∀ q : Nat, H1.size ≤ q → s.heap.size ≤ q := fun q h => Nat.le_trans hS.1 h
  have hFc := fr_freeR (w1 := mW cI m0 a th σ) (w2 := (xoW cI cR cS cL x0 b o0 u_)) hD hAH
  refine va_calli (va_runV (As := [.int (xs ((5 * j) + 1)), .int (xs ((5 * j) + 2)), .int (xs ((5 * j) + 3))]) (rest := []) ⟨hx, hb, hml, hown, hts⟩ (c_X3_tiles l dD cI cR cS s.heap.size H1.size hS.1 m0 a th σ hI (xs ((5 * j) + 1)) (xs ((5 * j) + 2)) (xs ((5 * j) + 3))) (cwV 3 hts gL_law_X3_tiles rfl rfl rfl (by decide +kernel) ⟨Nat.le_of_ble_eq_true rfl, Nat.le_of_ble_eq_true rfl⟩) (ePreV hE hS (vP_app2 (w1 := (xoW cI cR cS cL x0 b o0 u_)) hP) (k := 0) rfl rfl ⟨rfl, vP_app2 (w1 := (xoW cI cR cS cL x0 b o0 u_)) hP, vD_app2 (w1 := (xoW cI cR cS cL x0 b o0 u_)) hD⟩) rfl rfl hl.1 rfl (lv_room (Nat.le_of_ble_eq_true rfl)) dL_law_798 ⟨by simp only [room_1]; omega, by simp only [room_1]; omega⟩) hS (fun q _ h => hFc q h) hFc (fun r_798 u_798 t_ H1 locs ht_ hvm_ hw_798 hB_ hz_ hk_ hS => ?_)
  obtain ⟨hP, hD⟩ := fr_joinR (w1 := mW cI m0 a th σ) (w1' := mW cI m0 a u_798.1 u_798.2) (w2 := (xoW cI cR cS cL x0 b o0 u_)) hP hD hAH hk_ (by rw [← ht_]; exact hB_) (va_D_fst (vD_app2 (w1 := (xoW cI cR cS cL x0 b o0 u_)) hD).self rfl)
  obtain ⟨th3, σ3⟩ := u_798
  rcases hw1 with ⟨g1, g2, g3, rfl, g5⟩ | ⟨g1, g3, rfl⟩ | ⟨g1, g2, g3, rfl⟩
  · rcases hw_798 with ⟨f1, f2, f3, f4⟩ | ⟨f1, f3⟩ | ⟨f1, f2, f3⟩
    · obtain ⟨rfl, hs3⟩ := Prod.mk.inj f3
      have hs : u_.1 = σ3 := g3.trans hs3.symm
      have hI3 : sI σ3 := by rw [← hs]; exact hok.1
      have hP : va_P dD vwCl ((xoW cI cR cS cL x0 b o0 u_) ++ mW cI m0 a 0 σ3) H1 := hP
      have hD : va_D (fun q => s.heap.size ≤ q) ((xoW cI cR cS cL x0 b o0 u_) ++ mW cI m0 a 0 σ3) := hD
      have hout : u_.2.2.2.2.2 0 = (r_798).toInt64 := by rw [g5, f4]
      refine lv_istore (lv' := [(6, .int r_798), (5, .int (nI 0)), (0, .ref bq), (1, .ref x0), (2, .ref m0), (3, .ref o0), (4, .int (nI (5 * j)))]) hx hb dL_law_801 hl (by decide) rfl (fun ls hl => ?_)
      refine lv_aload_n hx hb dL_law_803 rfl (lv_at hl 4 rfl) ?_
      have hAH : ∀ q : Nat, H1.size ≤ q → s.heap.size ≤ q := fun q h => Nat.le_trans hS.1 h
      have hFc := fr_freeR (w1 := mW cI m0 a 0 σ3) (w2 := (xoW cI cR cS cL x0 b o0 u_)) hD hAH
      refine va_calli (va_runV (As := []) (rest := []) ⟨hx, hb, hml, hown, hts⟩ (c_X3_thrown l dD cI cR cS s.heap.size H1.size hS.1 m0 a 0 σ3 hI3 ) (cwV 0 hts gL_law_X3_thrown rfl rfl rfl (by decide +kernel) ⟨Nat.le_of_ble_eq_true rfl, Nat.le_of_ble_eq_true rfl⟩) (ePreV hE hS (vP_app2 (w1 := (xoW cI cR cS cL x0 b o0 u_)) hP) (k := 0) rfl rfl ⟨rfl, vP_app2 (w1 := (xoW cI cR cS cL x0 b o0 u_)) hP, vD_app2 (w1 := (xoW cI cR cS cL x0 b o0 u_)) hD⟩) rfl rfl hl.1 rfl (lv_room (Nat.le_of_ble_eq_true rfl)) dL_law_804 ⟨by simp only [room_1]; omega, by simp only [room_1]; omega⟩) hS (fun q _ h => hFc q h) hFc (fun r_804 u_804 t_ H1 locs ht_ hvm_ hw_804 hB_ hz_ hk_ hS => ?_)
      obtain ⟨hP, hD⟩ := fr_joinR (w1 := mW cI m0 a 0 σ3) (w1' := mW cI m0 a u_804.1 u_804.2) (w2 := (xoW cI cR cS cL x0 b o0 u_)) hP hD hAH hk_ (by rw [← ht_]; exact hB_) (va_D_fst (vD_app2 (w1 := (xoW cI cR cS cL x0 b o0 u_)) hD).self rfl)
      obtain ⟨f5, rfl⟩ := hw_804
      have hP : va_P dD vwCl ((xoW cI cR cS cL x0 b o0 u_) ++ mW cI m0 a 0 σ3) H1 := by rw [f5] at hP; exact hP
      have hD : va_D (fun q => s.heap.size ≤ q) ((xoW cI cR cS cL x0 b o0 u_) ++ mW cI m0 a 0 σ3) := by rw [f5] at hD; exact hD
      refine lv_iload hx hb dL_law_807 (lv_at hl 1 rfl) ?_
      refine nv_eq (tgt := 814) hx hb dL_law_809 (by decide) (by decide) (by decide) (fun c_809 => ?_) (fun c_809 => absurd c_809 (by decide))
      refine lv_iload hx hb dL_law_814 (lv_at hl 1 rfl) ?_
      refine nv_if_ne (tgt := 831) hx hb dL_law_816 (by decide) (by decide) (fun c_816 => absurd c_816 (by decide)) (fun c_816 => ?_)
      refine lv_aload_n hx hb dL_law_819 rfl (lv_at hl 5 rfl) ?_
      refine lv_iconst (v := nI 0) hx hb dL_law_820 (by decide +kernel) ?_
      refine va_lald hx hb hKL hP 0 0 rfl rfl (vp_in_nI (by decide) (by decide)) dL_law_821 ?_
      rw [show (nI 0).toNatClampNeg = 0 from by decide, hout]
      refine lv_iload hx hb dL_law_822 (lv_at hl 0 rfl) ?_
      refine lv_i2l (v := (r_798).toInt64) hx hb dL_law_824 rfl ?_
      refine W.lcmp hx hb dL_law_825 ?_
      rw [lg_self]
      refine lv_if_eq (tgt := 831) hx hb dL_law_826 (by decide) (fun c_826 => ?_) (fun c_826 => absurd rfl c_826)
      refine lv_goto (tgt := 1277) hx hb dL_law_831 (by decide) ?_
      refine W.widen (k := 108 + 8 * j) (n := 3064 + 64 * j) (by omega) (by omega) ?_
      exact hn u_ 0 H1 locs hok (by rw [hs]; exact hP) (by rw [hs]; exact hD) hS ls (lv_sub hl [2, 3, 4, 5, 6] rfl)
    · exact absurd g1 f1
    · exact absurd g2 f2
  · rcases hw_798 with ⟨f1, f2, f3, f4⟩ | ⟨f1, f3⟩ | ⟨f1, f2, f3⟩
    · exact absurd f1 g1
    · obtain ⟨rfl, hs3⟩ := Prod.mk.inj f3
      have hs : u_.1 = σ3 := g3.trans hs3.symm
      have hI3 : sI σ3 := by rw [← hs]; exact hok.1
      have hP : va_P dD vwCl ((xoW cI cR cS cL x0 b o0 u_) ++ mW cI m0 a 1 σ3) H1 := hP
      have hD : va_D (fun q => s.heap.size ≤ q) ((xoW cI cR cS cL x0 b o0 u_) ++ mW cI m0 a 1 σ3) := hD
      refine lv_istore (lv' := [(6, .int r_798), (5, .int (nI 1)), (0, .ref bq), (1, .ref x0), (2, .ref m0), (3, .ref o0), (4, .int (nI (5 * j)))]) hx hb dL_law_801 hl (by decide) rfl (fun ls hl => ?_)
      refine lv_aload_n hx hb dL_law_803 rfl (lv_at hl 4 rfl) ?_
      have hAH : ∀ q : Nat, H1.size ≤ q → s.heap.size ≤ q := fun q h => Nat.le_trans hS.1 h
      have hFc := fr_freeR (w1 := mW cI m0 a 1 σ3) (w2 := (xoW cI cR cS cL x0 b o0 u_)) hD hAH
      refine va_calli (va_runV (As := []) (rest := []) ⟨hx, hb, hml, hown, hts⟩ (c_X3_thrown l dD cI cR cS s.heap.size H1.size hS.1 m0 a 1 σ3 hI3 ) (cwV 0 hts gL_law_X3_thrown rfl rfl rfl (by decide +kernel) ⟨Nat.le_of_ble_eq_true rfl, Nat.le_of_ble_eq_true rfl⟩) (ePreV hE hS (vP_app2 (w1 := (xoW cI cR cS cL x0 b o0 u_)) hP) (k := 0) rfl rfl ⟨rfl, vP_app2 (w1 := (xoW cI cR cS cL x0 b o0 u_)) hP, vD_app2 (w1 := (xoW cI cR cS cL x0 b o0 u_)) hD⟩) rfl rfl hl.1 rfl (lv_room (Nat.le_of_ble_eq_true rfl)) dL_law_804 ⟨by simp only [room_1]; omega, by simp only [room_1]; omega⟩) hS (fun q _ h => hFc q h) hFc (fun r_804 u_804 t_ H1 locs ht_ hvm_ hw_804 hB_ hz_ hk_ hS => ?_)
      obtain ⟨hP, hD⟩ := fr_joinR (w1 := mW cI m0 a 1 σ3) (w1' := mW cI m0 a u_804.1 u_804.2) (w2 := (xoW cI cR cS cL x0 b o0 u_)) hP hD hAH hk_ (by rw [← ht_]; exact hB_) (va_D_fst (vD_app2 (w1 := (xoW cI cR cS cL x0 b o0 u_)) hD).self rfl)
      obtain ⟨f5, rfl⟩ := hw_804
      have hP : va_P dD vwCl ((xoW cI cR cS cL x0 b o0 u_) ++ mW cI m0 a 1 σ3) H1 := by rw [f5] at hP; exact hP
      have hD : va_D (fun q => s.heap.size ≤ q) ((xoW cI cR cS cL x0 b o0 u_) ++ mW cI m0 a 1 σ3) := by rw [f5] at hD; exact hD
      refine lv_iload hx hb dL_law_807 (lv_at hl 1 rfl) ?_
      refine nv_eq (tgt := 814) hx hb dL_law_809 (by decide) (by decide) (by decide) (fun c_809 => ?_) (fun c_809 => absurd c_809 (by decide))
      refine lv_iload hx hb dL_law_814 (lv_at hl 1 rfl) ?_
      refine nv_if_ne (tgt := 831) hx hb dL_law_816 (by decide) (by decide) (fun c_816 => ?_) (fun c_816 => absurd c_816 (by decide))
      refine lv_goto (tgt := 1277) hx hb dL_law_831 (by decide) ?_
      refine W.widen (k := 108 + 8 * j) (n := 3064 + 64 * j) (by omega) (by omega) ?_
      exact hn u_ 1 H1 locs hok (by rw [hs]; exact hP) (by rw [hs]; exact hD) hS ls (lv_sub hl [2, 3, 4, 5, 6] rfl)
    · exact absurd f1 g1
  · rcases hw_798 with ⟨f1, f2, f3, f4⟩ | ⟨f1, f3⟩ | ⟨f1, f2, f3⟩
    · exact absurd f2 g2
    · exact absurd g1 f1
    · obtain ⟨rfl, hs3⟩ := Prod.mk.inj f3
      have hs : u_.1 = σ3 := g3.trans hs3.symm
      have hI3 : sI σ3 := by rw [← hs]; exact hok.1
      have hP : va_P dD vwCl ((xoW cI cR cS cL x0 b o0 u_) ++ mW cI m0 a 2 σ3) H1 := hP
      have hD : va_D (fun q => s.heap.size ≤ q) ((xoW cI cR cS cL x0 b o0 u_) ++ mW cI m0 a 2 σ3) := hD
      refine lv_istore (lv' := [(6, .int r_798), (5, .int (nI 2)), (0, .ref bq), (1, .ref x0), (2, .ref m0), (3, .ref o0), (4, .int (nI (5 * j)))]) hx hb dL_law_801 hl (by decide) rfl (fun ls hl => ?_)
      refine lv_aload_n hx hb dL_law_803 rfl (lv_at hl 4 rfl) ?_
      have hAH : ∀ q : Nat, H1.size ≤ q → s.heap.size ≤ q := fun q h => Nat.le_trans hS.1 h
      have hFc := fr_freeR (w1 := mW cI m0 a 2 σ3) (w2 := (xoW cI cR cS cL x0 b o0 u_)) hD hAH
      refine va_calli (va_runV (As := []) (rest := []) ⟨hx, hb, hml, hown, hts⟩ (c_X3_thrown l dD cI cR cS s.heap.size H1.size hS.1 m0 a 2 σ3 hI3 ) (cwV 0 hts gL_law_X3_thrown rfl rfl rfl (by decide +kernel) ⟨Nat.le_of_ble_eq_true rfl, Nat.le_of_ble_eq_true rfl⟩) (ePreV hE hS (vP_app2 (w1 := (xoW cI cR cS cL x0 b o0 u_)) hP) (k := 0) rfl rfl ⟨rfl, vP_app2 (w1 := (xoW cI cR cS cL x0 b o0 u_)) hP, vD_app2 (w1 := (xoW cI cR cS cL x0 b o0 u_)) hD⟩) rfl rfl hl.1 rfl (lv_room (Nat.le_of_ble_eq_true rfl)) dL_law_804 ⟨by simp only [room_1]; omega, by simp only [room_1]; omega⟩) hS (fun q _ h => hFc q h) hFc (fun r_804 u_804 t_ H1 locs ht_ hvm_ hw_804 hB_ hz_ hk_ hS => ?_)
      obtain ⟨hP, hD⟩ := fr_joinR (w1 := mW cI m0 a 2 σ3) (w1' := mW cI m0 a u_804.1 u_804.2) (w2 := (xoW cI cR cS cL x0 b o0 u_)) hP hD hAH hk_ (by rw [← ht_]; exact hB_) (va_D_fst (vD_app2 (w1 := (xoW cI cR cS cL x0 b o0 u_)) hD).self rfl)
      obtain ⟨f5, rfl⟩ := hw_804
      have hP : va_P dD vwCl ((xoW cI cR cS cL x0 b o0 u_) ++ mW cI m0 a 2 σ3) H1 := by rw [f5] at hP; exact hP
      have hD : va_D (fun q => s.heap.size ≤ q) ((xoW cI cR cS cL x0 b o0 u_) ++ mW cI m0 a 2 σ3) := by rw [f5] at hD; exact hD
      refine lv_iload hx hb dL_law_807 (lv_at hl 1 rfl) ?_
      refine nv_eq (tgt := 814) hx hb dL_law_809 (by decide) (by decide) (by decide) (fun c_809 => ?_) (fun c_809 => absurd c_809 (by decide))
      refine lv_iload hx hb dL_law_814 (lv_at hl 1 rfl) ?_
      refine nv_if_ne (tgt := 831) hx hb dL_law_816 (by decide) (by decide) (fun c_816 => ?_) (fun c_816 => absurd c_816 (by decide))
      refine lv_goto (tgt := 1277) hx hb dL_law_831 (by decide) ?_
      refine W.widen (k := 108 + 8 * j) (n := 3064 + 64 * j) (by omega) (by omega) ?_
      exact hn u_ 2 H1 locs hok (by rw [hs]; exact hP) (by rw [hs]; exact hD) hS ls (lv_sub hl [2, 3, 4, 5, 6] rfl)
