/-! the law's cases (laid by wip/whole/gen/lawcases.py) -/
set_option maxHeartbeats 4000000 in
set_option maxRecDepth 100000 in
theorem law_serve {p : Program} {l : Launch} {e_ : Env} {s : State} {m : MethodId} {below : List Frame} {meth : Method} {c : Code} {bq L : Nat} {xs : Nat → Int32} (hL : L ≤ 2560) (C0 : lw_At p s m meth c bq L xs) (hfl : l.stackTraces = false) {dD : va_G} {cI cR cS cL : ClassId} (hE : eE dD cI cR cS s.heap.size s s.heap) (hKL : va_K dD vwCl [(cL, .long)] s) {x0 m0 o0 : Nat} {b a : Nat → Nat} {j : Nat} (hj : 5 * j + 5 ≤ L) (hn : lS p l e_ s m below meth c bq dD cI cR cS cL x0 m0 o0 b a j (108 + 8 * j) (3064 + 64 * j) 1277) : lS p l e_ s m below meth c bq dD cI cR cS cL x0 m0 o0 b a j (100 + 8 * j) (3000 + 64 * j) 1064 := by
  obtain ⟨hx, hb, -, hml, hown, hts, hXs, hbl, hlocks, -⟩ := id C0
  have hown : s.vm.findClass RL = some m.cls := hown
  have hts : ∀ w ∈ wsL_law, w.before #[Value.ref bq] s = true := fun w h => hts w (wsL_law_in w h)
  have hbA : ¬ (fun q : Nat => s.heap.size ≤ q) bq := Nat.not_le.mpr hbl
  have hK := hE.1.1
  intro u th H locs hu hP hD hS ls hl
  obtain ⟨σ, ra, sb, hd, ol, out⟩ := u
  obtain ⟨hI, hX, hJ⟩ := hu
  have hI : sI σ := hI
  have hX : xI σ hd ol := hX
  have hJ : xJ σ hd ol := hJ
  have hP : va_P dD vwCl ((xoW cI cR cS cL x0 b o0 (σ, ra, sb, hd, ol, out)) ++ mW cI m0 a th σ) H := hP
  have hD : va_D (fun q => s.heap.size ≤ q) ((xoW cI cR cS cL x0 b o0 (σ, ra, sb, hd, ol, out)) ++ mW cI m0 a th σ) := hD
  refine lv_aload_n hx hb dL_law_1064 rfl (lv_at hl 1 rfl) ?_
  refine lv_aload_n hx hb dL_law_1065 rfl (lv_at hl 0 rfl) ?_
  refine lv_iload hx hb dL_law_1066 (lv_at hl 4 rfl) ?_
  refine lv_iconst (v := nI 1) hx hb dL_law_1068 (by decide +kernel) ?_
  refine nv_iadd hx hb dL_law_1069 ?_
  refine nv_sld hx hb hXs hbl hbA hS (by omega) (by omega) dL_law_1070 ?_
  refine lv_aload_n hx hb dL_law_1071 rfl (lv_at hl 0 rfl) ?_
  refine lv_iload hx hb dL_law_1072 (lv_at hl 4 rfl) ?_
  refine lv_iconst (v := nI 2) hx hb dL_law_1074 (by decide +kernel) ?_
  refine nv_iadd hx hb dL_law_1075 ?_
  refine nv_sld hx hb hXs hbl hbA hS (by omega) (by omega) dL_law_1076 ?_
  refine lv_aload_n hx hb dL_law_1077 rfl (lv_at hl 3 rfl) ?_
  have hAH : ∀ q : Nat, H.size ≤ q → s.heap.size ≤ q := fun q h => Nat.le_trans hS.1 h
  have hFc := fr_free (w1 := (xoW cI cR cS cL x0 b o0 (σ, ra, sb, hd, ol, out))) (w2 := mW cI m0 a th σ) hD hAH
  refine va_calli (vx_runSW (As := [.ref x0, .int (xs ((5 * j) + 1)), .int (xs ((5 * j) + 2)), .ref o0]) (rest := []) ⟨hx, hb, hml, hown, hts⟩ (c_L_serve l dD cI cR cS s.heap.size cL hfl H.size hS.1 x0 b o0 ra sb hd ol σ out hI hX hJ (xs ((5 * j) + 1)) (xs ((5 * j) + 2))) (vx_cwSW 4 hts gL_law_L_serve rfl rfl rfl (by decide +kernel) ⟨Nat.le_of_ble_eq_true rfl, Nat.le_of_ble_eq_true rfl⟩) (lPreS hE hKL hS ⟨rfl, vP_app1 hP, vD_app1 hD⟩) rfl rfl hl.1 rfl (lv_room (Nat.le_of_ble_eq_true rfl)) dL_law_1078 ⟨by simp only [room_1]; omega, by simp only [room_1]; omega⟩) hS (fun q _ h => hFc q h) hFc (fun r_ u_ t_ H1 locs ht_ hvm_ hw1 hB_ hz_ hk_ hS => ?_)
  obtain ⟨hP, hD⟩ := fr_join (w1 := (xoW cI cR cS cL x0 b o0 (σ, ra, sb, hd, ol, out))) (w1' := (xoW cI cR cS cL x0 b o0 u_)) (w2 := mW cI m0 a th σ) hP hD hAH hk_ (by rw [← ht_]; exact hB_.1) hB_.2
  obtain ⟨hw1, hok⟩ := hw1
  refine lv_istore (lv' := [(5, .int r_), (0, .ref bq), (1, .ref x0), (2, .ref m0), (3, .ref o0), (4, .int (nI (5 * j)))]) hx hb dL_law_1081 hl (by decide) rfl (fun ls hl => ?_)
  refine lv_aload_n hx hb dL_law_1083 rfl (lv_at hl 3 rfl) ?_
  refine lv_aload_n hx hb dL_law_1084 rfl (lv_at hl 1 rfl) ?_
  refine lv_iload hx hb dL_law_1085 (lv_at hl 5 rfl) ?_
  refine lv_iconst (v := nI 1) hx hb dL_law_1087 (by decide +kernel) ?_
  refine nv_iadd hx hb dL_law_1088 ?_
  refine nv_sld hx hb hXs hbl hbA hS (by omega) (by omega) dL_law_1089 ?_
  refine lv_aload_n hx hb dL_law_1090 rfl (lv_at hl 1 rfl) ?_
  refine lv_iload hx hb dL_law_1091 (lv_at hl 5 rfl) ?_
  refine lv_iconst (v := nI 2) hx hb dL_law_1093 (by decide +kernel) ?_
  refine nv_iadd hx hb dL_law_1094 ?_
  refine nv_sld hx hb hXs hbl hbA hS (by omega) (by omega) dL_law_1095 ?_
  have hAH : ∀ q : Nat, H1.size ≤ q → s.heap.size ≤ q := fun q h => Nat.le_trans hS.1 h
  have hFc := fr_freeR (w1 := mW cI m0 a th σ) (w2 := (xoW cI cR cS cL x0 b o0 u_)) hD hAH
  refine va_calli (va_runV (As := [.int (xs ((5 * j) + 1)), .int (xs ((5 * j) + 2))]) (rest := []) ⟨hx, hb, hml, hown, hts⟩ (c_X3_serve l dD cI cR cS s.heap.size H1.size hS.1 m0 a th σ hI (xs ((5 * j) + 1)) (xs ((5 * j) + 2))) (cwV 2 hts gL_law_X3_serve rfl rfl rfl (by decide +kernel) ⟨Nat.le_of_ble_eq_true rfl, Nat.le_of_ble_eq_true rfl⟩) (ePreV hE hS (vP_app2 (w1 := (xoW cI cR cS cL x0 b o0 u_)) hP) (k := 0) rfl rfl ⟨rfl, vP_app2 (w1 := (xoW cI cR cS cL x0 b o0 u_)) hP, vD_app2 (w1 := (xoW cI cR cS cL x0 b o0 u_)) hD⟩) rfl rfl hl.1 rfl (lv_room (Nat.le_of_ble_eq_true rfl)) dL_law_1096 ⟨by simp only [room_1]; omega, by simp only [room_1]; omega⟩) hS (fun q _ h => hFc q h) hFc (fun r_1096 u_1096 t_ H1 locs ht_ hvm_ hw_1096 hB_ hz_ hk_ hS => ?_)
  obtain ⟨hP, hD⟩ := fr_joinR (w1 := mW cI m0 a th σ) (w1' := mW cI m0 a u_1096.1 u_1096.2) (w2 := (xoW cI cR cS cL x0 b o0 u_)) hP hD hAH hk_ (by rw [← ht_]; exact hB_) (va_D_fst (vD_app2 (w1 := (xoW cI cR cS cL x0 b o0 u_)) hD).self rfl)
  obtain ⟨th3, σ3⟩ := u_1096
  rcases hw1 with ⟨g1, g2, g3, rfl, g5⟩ | ⟨g1, g3, rfl⟩ | ⟨g1, g2, g3, rfl⟩
  · rcases hw_1096 with ⟨f1, f2, f3, f4⟩ | ⟨f1, f3⟩ | ⟨f1, f2, f3⟩
    · obtain ⟨rfl, hs3⟩ := Prod.mk.inj f3
      have hs : u_.1 = σ3 := g3.trans hs3.symm
      have hI3 : sI σ3 := by rw [← hs]; exact hok.1
      have hP : va_P dD vwCl ((xoW cI cR cS cL x0 b o0 u_) ++ mW cI m0 a 0 σ3) H1 := hP
      have hD : va_D (fun q => s.heap.size ≤ q) ((xoW cI cR cS cL x0 b o0 u_) ++ mW cI m0 a 0 σ3) := hD
      have hout : u_.2.2.2.2.2 0 = (r_1096).toInt64 := by rw [g5, f4]
      refine lv_istore (lv' := [(6, .int r_1096), (5, .int (nI 0)), (0, .ref bq), (1, .ref x0), (2, .ref m0), (3, .ref o0), (4, .int (nI (5 * j)))]) hx hb dL_law_1099 hl (by decide) rfl (fun ls hl => ?_)
      refine lv_aload_n hx hb dL_law_1101 rfl (lv_at hl 4 rfl) ?_
      have hAH : ∀ q : Nat, H1.size ≤ q → s.heap.size ≤ q := fun q h => Nat.le_trans hS.1 h
      have hFc := fr_freeR (w1 := mW cI m0 a 0 σ3) (w2 := (xoW cI cR cS cL x0 b o0 u_)) hD hAH
      refine va_calli (va_runV (As := []) (rest := []) ⟨hx, hb, hml, hown, hts⟩ (c_X3_thrown l dD cI cR cS s.heap.size H1.size hS.1 m0 a 0 σ3 hI3 ) (cwV 0 hts gL_law_X3_thrown rfl rfl rfl (by decide +kernel) ⟨Nat.le_of_ble_eq_true rfl, Nat.le_of_ble_eq_true rfl⟩) (ePreV hE hS (vP_app2 (w1 := (xoW cI cR cS cL x0 b o0 u_)) hP) (k := 0) rfl rfl ⟨rfl, vP_app2 (w1 := (xoW cI cR cS cL x0 b o0 u_)) hP, vD_app2 (w1 := (xoW cI cR cS cL x0 b o0 u_)) hD⟩) rfl rfl hl.1 rfl (lv_room (Nat.le_of_ble_eq_true rfl)) dL_law_1102 ⟨by simp only [room_1]; omega, by simp only [room_1]; omega⟩) hS (fun q _ h => hFc q h) hFc (fun r_1102 u_1102 t_ H1 locs ht_ hvm_ hw_1102 hB_ hz_ hk_ hS => ?_)
      obtain ⟨hP, hD⟩ := fr_joinR (w1 := mW cI m0 a 0 σ3) (w1' := mW cI m0 a u_1102.1 u_1102.2) (w2 := (xoW cI cR cS cL x0 b o0 u_)) hP hD hAH hk_ (by rw [← ht_]; exact hB_) (va_D_fst (vD_app2 (w1 := (xoW cI cR cS cL x0 b o0 u_)) hD).self rfl)
      obtain ⟨f5, rfl⟩ := hw_1102
      have hP : va_P dD vwCl ((xoW cI cR cS cL x0 b o0 u_) ++ mW cI m0 a 0 σ3) H1 := by rw [f5] at hP; exact hP
      have hD : va_D (fun q => s.heap.size ≤ q) ((xoW cI cR cS cL x0 b o0 u_) ++ mW cI m0 a 0 σ3) := by rw [f5] at hD; exact hD
      refine lv_iload hx hb dL_law_1105 (lv_at hl 1 rfl) ?_
      refine nv_eq (tgt := 1112) hx hb dL_law_1107 (by decide) (by decide) (by decide) (fun c_1107 => ?_) (fun c_1107 => absurd c_1107 (by decide))
      refine lv_iload hx hb dL_law_1112 (lv_at hl 1 rfl) ?_
      refine nv_if_ne (tgt := 1129) hx hb dL_law_1114 (by decide) (by decide) (fun c_1114 => absurd c_1114 (by decide)) (fun c_1114 => ?_)
      refine lv_aload_n hx hb dL_law_1117 rfl (lv_at hl 5 rfl) ?_
      refine lv_iconst (v := nI 0) hx hb dL_law_1118 (by decide +kernel) ?_
      refine va_lald hx hb hKL hP 0 0 rfl rfl (vp_in_nI (by decide) (by decide)) dL_law_1119 ?_
      rw [show (nI 0).toNatClampNeg = 0 from by decide, hout]
      refine lv_iload hx hb dL_law_1120 (lv_at hl 0 rfl) ?_
      refine lv_i2l (v := (r_1096).toInt64) hx hb dL_law_1122 rfl ?_
      refine W.lcmp hx hb dL_law_1123 ?_
      rw [lg_self]
      refine lv_if_eq (tgt := 1129) hx hb dL_law_1124 (by decide) (fun c_1124 => ?_) (fun c_1124 => absurd rfl c_1124)
      refine lv_goto (tgt := 1277) hx hb dL_law_1129 (by decide) ?_
      refine W.widen (k := 108 + 8 * j) (n := 3064 + 64 * j) (by omega) (by omega) ?_
      exact hn u_ 0 H1 locs hok (by rw [hs]; exact hP) (by rw [hs]; exact hD) hS ls (lv_sub hl [2, 3, 4, 5, 6] rfl)
    · exact absurd g1 f1
    · exact absurd g2 f2
  · rcases hw_1096 with ⟨f1, f2, f3, f4⟩ | ⟨f1, f3⟩ | ⟨f1, f2, f3⟩
    · exact absurd f1 g1
    · obtain ⟨rfl, hs3⟩ := Prod.mk.inj f3
      have hs : u_.1 = σ3 := g3.trans hs3.symm
      have hI3 : sI σ3 := by rw [← hs]; exact hok.1
      have hP : va_P dD vwCl ((xoW cI cR cS cL x0 b o0 u_) ++ mW cI m0 a 1 σ3) H1 := hP
      have hD : va_D (fun q => s.heap.size ≤ q) ((xoW cI cR cS cL x0 b o0 u_) ++ mW cI m0 a 1 σ3) := hD
      refine lv_istore (lv' := [(6, .int r_1096), (5, .int (nI 1)), (0, .ref bq), (1, .ref x0), (2, .ref m0), (3, .ref o0), (4, .int (nI (5 * j)))]) hx hb dL_law_1099 hl (by decide) rfl (fun ls hl => ?_)
      refine lv_aload_n hx hb dL_law_1101 rfl (lv_at hl 4 rfl) ?_
      have hAH : ∀ q : Nat, H1.size ≤ q → s.heap.size ≤ q := fun q h => Nat.le_trans hS.1 h
      have hFc := fr_freeR (w1 := mW cI m0 a 1 σ3) (w2 := (xoW cI cR cS cL x0 b o0 u_)) hD hAH
      refine va_calli (va_runV (As := []) (rest := []) ⟨hx, hb, hml, hown, hts⟩ (c_X3_thrown l dD cI cR cS s.heap.size H1.size hS.1 m0 a 1 σ3 hI3 ) (cwV 0 hts gL_law_X3_thrown rfl rfl rfl (by decide +kernel) ⟨Nat.le_of_ble_eq_true rfl, Nat.le_of_ble_eq_true rfl⟩) (ePreV hE hS (vP_app2 (w1 := (xoW cI cR cS cL x0 b o0 u_)) hP) (k := 0) rfl rfl ⟨rfl, vP_app2 (w1 := (xoW cI cR cS cL x0 b o0 u_)) hP, vD_app2 (w1 := (xoW cI cR cS cL x0 b o0 u_)) hD⟩) rfl rfl hl.1 rfl (lv_room (Nat.le_of_ble_eq_true rfl)) dL_law_1102 ⟨by simp only [room_1]; omega, by simp only [room_1]; omega⟩) hS (fun q _ h => hFc q h) hFc (fun r_1102 u_1102 t_ H1 locs ht_ hvm_ hw_1102 hB_ hz_ hk_ hS => ?_)
      obtain ⟨hP, hD⟩ := fr_joinR (w1 := mW cI m0 a 1 σ3) (w1' := mW cI m0 a u_1102.1 u_1102.2) (w2 := (xoW cI cR cS cL x0 b o0 u_)) hP hD hAH hk_ (by rw [← ht_]; exact hB_) (va_D_fst (vD_app2 (w1 := (xoW cI cR cS cL x0 b o0 u_)) hD).self rfl)
      obtain ⟨f5, rfl⟩ := hw_1102
      have hP : va_P dD vwCl ((xoW cI cR cS cL x0 b o0 u_) ++ mW cI m0 a 1 σ3) H1 := by rw [f5] at hP; exact hP
      have hD : va_D (fun q => s.heap.size ≤ q) ((xoW cI cR cS cL x0 b o0 u_) ++ mW cI m0 a 1 σ3) := by rw [f5] at hD; exact hD
      refine lv_iload hx hb dL_law_1105 (lv_at hl 1 rfl) ?_
      refine nv_eq (tgt := 1112) hx hb dL_law_1107 (by decide) (by decide) (by decide) (fun c_1107 => ?_) (fun c_1107 => absurd c_1107 (by decide))
      refine lv_iload hx hb dL_law_1112 (lv_at hl 1 rfl) ?_
      refine nv_if_ne (tgt := 1129) hx hb dL_law_1114 (by decide) (by decide) (fun c_1114 => ?_) (fun c_1114 => absurd c_1114 (by decide))
      refine lv_goto (tgt := 1277) hx hb dL_law_1129 (by decide) ?_
      refine W.widen (k := 108 + 8 * j) (n := 3064 + 64 * j) (by omega) (by omega) ?_
      exact hn u_ 1 H1 locs hok (by rw [hs]; exact hP) (by rw [hs]; exact hD) hS ls (lv_sub hl [2, 3, 4, 5, 6] rfl)
    · exact absurd f1 g1
  · rcases hw_1096 with ⟨f1, f2, f3, f4⟩ | ⟨f1, f3⟩ | ⟨f1, f2, f3⟩
    · exact absurd f2 g2
    · exact absurd g1 f1
    · obtain ⟨rfl, hs3⟩ := Prod.mk.inj f3
      have hs : u_.1 = σ3 := g3.trans hs3.symm
      have hI3 : sI σ3 := by rw [← hs]; exact hok.1
      have hP : va_P dD vwCl ((xoW cI cR cS cL x0 b o0 u_) ++ mW cI m0 a 2 σ3) H1 := hP
      have hD : va_D (fun q => s.heap.size ≤ q) ((xoW cI cR cS cL x0 b o0 u_) ++ mW cI m0 a 2 σ3) := hD
      refine lv_istore (lv' := [(6, .int r_1096), (5, .int (nI 2)), (0, .ref bq), (1, .ref x0), (2, .ref m0), (3, .ref o0), (4, .int (nI (5 * j)))]) hx hb dL_law_1099 hl (by decide) rfl (fun ls hl => ?_)
      refine lv_aload_n hx hb dL_law_1101 rfl (lv_at hl 4 rfl) ?_
      have hAH : ∀ q : Nat, H1.size ≤ q → s.heap.size ≤ q := fun q h => Nat.le_trans hS.1 h
      have hFc := fr_freeR (w1 := mW cI m0 a 2 σ3) (w2 := (xoW cI cR cS cL x0 b o0 u_)) hD hAH
      refine va_calli (va_runV (As := []) (rest := []) ⟨hx, hb, hml, hown, hts⟩ (c_X3_thrown l dD cI cR cS s.heap.size H1.size hS.1 m0 a 2 σ3 hI3 ) (cwV 0 hts gL_law_X3_thrown rfl rfl rfl (by decide +kernel) ⟨Nat.le_of_ble_eq_true rfl, Nat.le_of_ble_eq_true rfl⟩) (ePreV hE hS (vP_app2 (w1 := (xoW cI cR cS cL x0 b o0 u_)) hP) (k := 0) rfl rfl ⟨rfl, vP_app2 (w1 := (xoW cI cR cS cL x0 b o0 u_)) hP, vD_app2 (w1 := (xoW cI cR cS cL x0 b o0 u_)) hD⟩) rfl rfl hl.1 rfl (lv_room (Nat.le_of_ble_eq_true rfl)) dL_law_1102 ⟨by simp only [room_1]; omega, by simp only [room_1]; omega⟩) hS (fun q _ h => hFc q h) hFc (fun r_1102 u_1102 t_ H1 locs ht_ hvm_ hw_1102 hB_ hz_ hk_ hS => ?_)
      obtain ⟨hP, hD⟩ := fr_joinR (w1 := mW cI m0 a 2 σ3) (w1' := mW cI m0 a u_1102.1 u_1102.2) (w2 := (xoW cI cR cS cL x0 b o0 u_)) hP hD hAH hk_ (by rw [← ht_]; exact hB_) (va_D_fst (vD_app2 (w1 := (xoW cI cR cS cL x0 b o0 u_)) hD).self rfl)
      obtain ⟨f5, rfl⟩ := hw_1102
      have hP : va_P dD vwCl ((xoW cI cR cS cL x0 b o0 u_) ++ mW cI m0 a 2 σ3) H1 := by rw [f5] at hP; exact hP
      have hD : va_D (fun q => s.heap.size ≤ q) ((xoW cI cR cS cL x0 b o0 u_) ++ mW cI m0 a 2 σ3) := by rw [f5] at hD; exact hD
      refine lv_iload hx hb dL_law_1105 (lv_at hl 1 rfl) ?_
      refine nv_eq (tgt := 1112) hx hb dL_law_1107 (by decide) (by decide) (by decide) (fun c_1107 => ?_) (fun c_1107 => absurd c_1107 (by decide))
      refine lv_iload hx hb dL_law_1112 (lv_at hl 1 rfl) ?_
      refine nv_if_ne (tgt := 1129) hx hb dL_law_1114 (by decide) (by decide) (fun c_1114 => ?_) (fun c_1114 => absurd c_1114 (by decide))
      refine lv_goto (tgt := 1277) hx hb dL_law_1129 (by decide) ?_
      refine W.widen (k := 108 + 8 * j) (n := 3064 + 64 * j) (by omega) (by omega) ?_
      exact hn u_ 2 H1 locs hok (by rw [hs]; exact hP) (by rw [hs]; exact hD) hS ls (lv_sub hl [2, 3, 4, 5, 6] rfl)

set_option maxHeartbeats 4000000 in
set_option maxRecDepth 100000 in
theorem law_servings {p : Program} {l : Launch} {e_ : Env} {s : State} {m : MethodId} {below : List Frame} {meth : Method} {c : Code} {bq L : Nat} {xs : Nat → Int32} (hL : L ≤ 2560) (C0 : lw_At p s m meth c bq L xs) (hfl : l.stackTraces = false) {dD : va_G} {cI cR cS cL : ClassId} (hE : eE dD cI cR cS s.heap.size s s.heap) (hKL : va_K dD vwCl [(cL, .long)] s) {x0 m0 o0 : Nat} {b a : Nat → Nat} {j : Nat} (hj : 5 * j + 5 ≤ L) (hn : lS p l e_ s m below meth c bq dD cI cR cS cL x0 m0 o0 b a j (108 + 8 * j) (3064 + 64 * j) 1277) : lS p l e_ s m below meth c bq dD cI cR cS cL x0 m0 o0 b a j (100 + 8 * j) (3000 + 64 * j) 1132 := by
  obtain ⟨hx, hb, -, hml, hown, hts, hXs, hbl, hlocks, -⟩ := id C0
  have hown : s.vm.findClass RL = some m.cls := hown
  have hts : ∀ w ∈ wsL_law, w.before #[Value.ref bq] s = true := fun w h => hts w (wsL_law_in w h)
  have hbA : ¬ (fun q : Nat => s.heap.size ≤ q) bq := Nat.not_le.mpr hbl
  have hK := hE.1.1
  intro u th H locs hu hP hD hS ls hl
  obtain ⟨σ, ra, sb, hd, ol, out⟩ := u
  obtain ⟨hI, hX, hJ⟩ := hu
  have hI : sI σ := hI
  have hX : xI σ hd ol := hX
  have hJ : xJ σ hd ol := hJ
  have hP : va_P dD vwCl ((xoW cI cR cS cL x0 b o0 (σ, ra, sb, hd, ol, out)) ++ mW cI m0 a th σ) H := hP
  have hD : va_D (fun q => s.heap.size ≤ q) ((xoW cI cR cS cL x0 b o0 (σ, ra, sb, hd, ol, out)) ++ mW cI m0 a th σ) := hD
  refine lv_aload_n hx hb dL_law_1132 rfl (lv_at hl 1 rfl) ?_
  refine vp_callSi (va_Run.run (va_runV (As := []) (rest := []) ⟨hx, hb, hml, hown, hts⟩ (c_X2_servings l dD cI cR cS s.heap.size x0 b ra sb hd ol σ hI) (cwV 0 hts gL_law_X2_servings rfl rfl rfl (by decide +kernel) ⟨Nat.le_of_ble_eq_true rfl, Nat.le_of_ble_eq_true rfl⟩) (ePreV hE hS hP (k := 1) rfl rfl (vP_app2 (w1 := [(o0, .inl (cL, 1, .inr (.inl out)))]) (vP_app1 hP))) rfl rfl hl.1 rfl (lv_room (Nat.le_of_ble_eq_true rfl)) dL_law_1133 ⟨by simp only [room_1]; omega, by simp only [room_1]; omega⟩)) (fun r_1133 hr_1133 => ?_)
  subst hr_1133
  refine lv_aload_n hx hb dL_law_1136 rfl (lv_at hl 2 rfl) ?_
  have hAH : ∀ q : Nat, H.size ≤ q → s.heap.size ≤ q := fun q h => Nat.le_trans hS.1 h
  have hFc := fr_freeR (w1 := mW cI m0 a th σ) (w2 := (xoW cI cR cS cL x0 b o0 (σ, ra, sb, hd, ol, out))) hD hAH
  refine va_calli (va_runV (As := []) (rest := [.int (nI (s_k σ))]) ⟨hx, hb, hml, hown, hts⟩ (c_X3_servings l dD cI cR cS s.heap.size H.size hS.1 m0 a th σ hI ) (cwV 0 hts gL_law_X3_servings rfl rfl rfl (by decide +kernel) ⟨Nat.le_of_ble_eq_true rfl, Nat.le_of_ble_eq_true rfl⟩) (ePreV hE hS (vP_app2 (w1 := (xoW cI cR cS cL x0 b o0 (σ, ra, sb, hd, ol, out))) hP) (k := 0) rfl rfl ⟨rfl, vP_app2 (w1 := (xoW cI cR cS cL x0 b o0 (σ, ra, sb, hd, ol, out))) hP, vD_app2 (w1 := (xoW cI cR cS cL x0 b o0 (σ, ra, sb, hd, ol, out))) hD⟩) rfl rfl hl.1 rfl (lv_room (Nat.le_of_ble_eq_true rfl)) dL_law_1137 ⟨by simp only [room_1]; omega, by simp only [room_1]; omega⟩) hS (fun q _ h => hFc q h) hFc (fun r_1137 u_1137 t_ H1 locs ht_ hvm_ hw_1137 hB_ hz_ hk_ hS => ?_)
  obtain ⟨hP, hD⟩ := fr_joinR (w1 := mW cI m0 a th σ) (w1' := mW cI m0 a u_1137.1 u_1137.2) (w2 := (xoW cI cR cS cL x0 b o0 (σ, ra, sb, hd, ol, out))) hP hD hAH hk_ (by rw [← ht_]; exact hB_) (va_D_fst (vD_app2 (w1 := (xoW cI cR cS cL x0 b o0 (σ, ra, sb, hd, ol, out))) hD).self rfl)
  obtain ⟨f5, rfl⟩ := hw_1137
  have hP : va_P dD vwCl ((xoW cI cR cS cL x0 b o0 (σ, ra, sb, hd, ol, out)) ++ mW cI m0 a 0 σ) H1 := by rw [f5] at hP; exact hP
  have hD : va_D (fun q => s.heap.size ≤ q) ((xoW cI cR cS cL x0 b o0 (σ, ra, sb, hd, ol, out)) ++ mW cI m0 a 0 σ) := by rw [f5] at hD; exact hD
  refine lv_icmp_eq (tgt := 1277) hx hb dL_law_1140 (by decide) (fun c_1140 => ?_) (fun c_1140 => absurd rfl c_1140)
  refine W.widen (k := 108 + 8 * j) (n := 3064 + 64 * j) (by omega) (by omega) ?_
  exact hn (σ, ra, sb, hd, ol, out) 0 H1 locs ⟨hI, hX, hJ⟩ hP hD hS ls (lv_sub hl [0, 1, 2, 3, 4] rfl)

set_option maxHeartbeats 4000000 in
set_option maxRecDepth 100000 in
theorem law_served {p : Program} {l : Launch} {e_ : Env} {s : State} {m : MethodId} {below : List Frame} {meth : Method} {c : Code} {bq L : Nat} {xs : Nat → Int32} (hL : L ≤ 2560) (C0 : lw_At p s m meth c bq L xs) (hfl : l.stackTraces = false) {dD : va_G} {cI cR cS cL : ClassId} (hE : eE dD cI cR cS s.heap.size s s.heap) (hKL : va_K dD vwCl [(cL, .long)] s) {x0 m0 o0 : Nat} {b a : Nat → Nat} {j : Nat} (hj : 5 * j + 5 ≤ L) (hn : lS p l e_ s m below meth c bq dD cI cR cS cL x0 m0 o0 b a j (108 + 8 * j) (3064 + 64 * j) 1277) : lS p l e_ s m below meth c bq dD cI cR cS cL x0 m0 o0 b a j (100 + 8 * j) (3000 + 64 * j) 1145 := by
  obtain ⟨hx, hb, -, hml, hown, hts, hXs, hbl, hlocks, -⟩ := id C0
  have hown : s.vm.findClass RL = some m.cls := hown
  have hts : ∀ w ∈ wsL_law, w.before #[Value.ref bq] s = true := fun w h => hts w (wsL_law_in w h)
  have hbA : ¬ (fun q : Nat => s.heap.size ≤ q) bq := Nat.not_le.mpr hbl
  have hK := hE.1.1
  intro u th H locs hu hP hD hS ls hl
  obtain ⟨σ, ra, sb, hd, ol, out⟩ := u
  obtain ⟨hI, hX, hJ⟩ := hu
  have hI : sI σ := hI
  have hX : xI σ hd ol := hX
  have hJ : xJ σ hd ol := hJ
  have hP : va_P dD vwCl ((xoW cI cR cS cL x0 b o0 (σ, ra, sb, hd, ol, out)) ++ mW cI m0 a th σ) H := hP
  have hD : va_D (fun q => s.heap.size ≤ q) ((xoW cI cR cS cL x0 b o0 (σ, ra, sb, hd, ol, out)) ++ mW cI m0 a th σ) := hD
  refine lv_aload_n hx hb dL_law_1145 rfl (lv_at hl 1 rfl) ?_
  refine lv_aload_n hx hb dL_law_1146 rfl (lv_at hl 0 rfl) ?_
  refine lv_iload hx hb dL_law_1147 (lv_at hl 4 rfl) ?_
  refine lv_iconst (v := nI 1) hx hb dL_law_1149 (by decide +kernel) ?_
  refine nv_iadd hx hb dL_law_1150 ?_
  refine nv_sld hx hb hXs hbl hbA hS (by omega) (by omega) dL_law_1151 ?_
  refine lv_aload_n hx hb dL_law_1152 rfl (lv_at hl 3 rfl) ?_
  have hAH : ∀ q : Nat, H.size ≤ q → s.heap.size ≤ q := fun q h => Nat.le_trans hS.1 h
  have hFc := fr_free (w1 := (xoW cI cR cS cL x0 b o0 (σ, ra, sb, hd, ol, out))) (w2 := mW cI m0 a th σ) hD hAH
  refine va_calli (vx_runSW (As := [.ref x0, .int (xs ((5 * j) + 1)), .ref o0]) (rest := []) ⟨hx, hb, hml, hown, hts⟩ (c_L_served l dD cI cR cS s.heap.size cL hfl H.size hS.1 x0 b o0 ra sb hd ol σ out hI hX hJ (xs ((5 * j) + 1))) (vx_cwSW 3 hts gL_law_L_served rfl rfl rfl (by decide +kernel) ⟨Nat.le_of_ble_eq_true rfl, Nat.le_of_ble_eq_true rfl⟩) (lPreS hE hKL hS ⟨rfl, vP_app1 hP, vD_app1 hD⟩) rfl rfl hl.1 rfl (lv_room (Nat.le_of_ble_eq_true rfl)) dL_law_1153 ⟨by simp only [room_1]; omega, by simp only [room_1]; omega⟩) hS (fun q _ h => hFc q h) hFc (fun r_ u_ t_ H1 locs ht_ hvm_ hw1 hB_ hz_ hk_ hS => ?_)
  obtain ⟨hP, hD⟩ := fr_join (w1 := (xoW cI cR cS cL x0 b o0 (σ, ra, sb, hd, ol, out))) (w1' := (xoW cI cR cS cL x0 b o0 u_)) (w2 := mW cI m0 a th σ) hP hD hAH hk_ (by rw [← ht_]; exact hB_.1) hB_.2
  obtain ⟨hw1, hok⟩ := hw1
  refine lv_istore (lv' := [(5, .int r_), (0, .ref bq), (1, .ref x0), (2, .ref m0), (3, .ref o0), (4, .int (nI (5 * j)))]) hx hb dL_law_1156 hl (by decide) rfl (fun ls hl => ?_)
  refine lv_aload_n hx hb dL_law_1158 rfl (lv_at hl 3 rfl) ?_
  refine lv_aload_n hx hb dL_law_1159 rfl (lv_at hl 1 rfl) ?_
  refine lv_iload hx hb dL_law_1160 (lv_at hl 5 rfl) ?_
  refine lv_iconst (v := nI 1) hx hb dL_law_1162 (by decide +kernel) ?_
  refine nv_iadd hx hb dL_law_1163 ?_
  refine nv_sld hx hb hXs hbl hbA hS (by omega) (by omega) dL_law_1164 ?_
  have hAH : ∀ q : Nat, H1.size ≤ q → s.heap.size ≤ q := fun q h => Nat.le_trans hS.1 h
  have hFc := fr_freeR (w1 := mW cI m0 a th σ) (w2 := (xoW cI cR cS cL x0 b o0 u_)) hD hAH
  refine va_calli (va_runV (As := [.int (xs ((5 * j) + 1))]) (rest := []) ⟨hx, hb, hml, hown, hts⟩ (c_X3_served l dD cI cR cS s.heap.size H1.size hS.1 m0 a th σ hI (xs ((5 * j) + 1))) (cwV 1 hts gL_law_X3_served rfl rfl rfl (by decide +kernel) ⟨Nat.le_of_ble_eq_true rfl, Nat.le_of_ble_eq_true rfl⟩) (ePreV hE hS (vP_app2 (w1 := (xoW cI cR cS cL x0 b o0 u_)) hP) (k := 0) rfl rfl ⟨rfl, vP_app2 (w1 := (xoW cI cR cS cL x0 b o0 u_)) hP, vD_app2 (w1 := (xoW cI cR cS cL x0 b o0 u_)) hD⟩) rfl rfl hl.1 rfl (lv_room (Nat.le_of_ble_eq_true rfl)) dL_law_1165 ⟨by simp only [room_1]; omega, by simp only [room_1]; omega⟩) hS (fun q _ h => hFc q h) hFc (fun r_1165 u_1165 t_ H1 locs ht_ hvm_ hw_1165 hB_ hz_ hk_ hS => ?_)
  obtain ⟨hP, hD⟩ := fr_joinR (w1 := mW cI m0 a th σ) (w1' := mW cI m0 a u_1165.1 u_1165.2) (w2 := (xoW cI cR cS cL x0 b o0 u_)) hP hD hAH hk_ (by rw [← ht_]; exact hB_) (va_D_fst (vD_app2 (w1 := (xoW cI cR cS cL x0 b o0 u_)) hD).self rfl)
  obtain ⟨th3, σ3⟩ := u_1165
  rcases hw1 with ⟨g1, g2, g3, rfl, g5⟩ | ⟨g1, g3, rfl⟩ | ⟨g1, g2, g3, rfl⟩
  · rcases hw_1165 with ⟨f1, f2, f3, f4⟩ | ⟨f1, f3⟩ | ⟨f1, f2, f3⟩
    · obtain ⟨rfl, hs3⟩ := Prod.mk.inj f3
      have hs : u_.1 = σ3 := g3.trans hs3.symm
      have hI3 : sI σ3 := by rw [← hs]; exact hok.1
      have hP : va_P dD vwCl ((xoW cI cR cS cL x0 b o0 u_) ++ mW cI m0 a 0 σ3) H1 := hP
      have hD : va_D (fun q => s.heap.size ≤ q) ((xoW cI cR cS cL x0 b o0 u_) ++ mW cI m0 a 0 σ3) := hD
      have hout : u_.2.2.2.2.2 0 = (r_1165).toInt64 := by rw [g5, f4]
      refine lv_istore (lv' := [(6, .int r_1165), (5, .int (nI 0)), (0, .ref bq), (1, .ref x0), (2, .ref m0), (3, .ref o0), (4, .int (nI (5 * j)))]) hx hb dL_law_1168 hl (by decide) rfl (fun ls hl => ?_)
      refine lv_aload_n hx hb dL_law_1170 rfl (lv_at hl 4 rfl) ?_
      have hAH : ∀ q : Nat, H1.size ≤ q → s.heap.size ≤ q := fun q h => Nat.le_trans hS.1 h
      have hFc := fr_freeR (w1 := mW cI m0 a 0 σ3) (w2 := (xoW cI cR cS cL x0 b o0 u_)) hD hAH
      refine va_calli (va_runV (As := []) (rest := []) ⟨hx, hb, hml, hown, hts⟩ (c_X3_thrown l dD cI cR cS s.heap.size H1.size hS.1 m0 a 0 σ3 hI3 ) (cwV 0 hts gL_law_X3_thrown rfl rfl rfl (by decide +kernel) ⟨Nat.le_of_ble_eq_true rfl, Nat.le_of_ble_eq_true rfl⟩) (ePreV hE hS (vP_app2 (w1 := (xoW cI cR cS cL x0 b o0 u_)) hP) (k := 0) rfl rfl ⟨rfl, vP_app2 (w1 := (xoW cI cR cS cL x0 b o0 u_)) hP, vD_app2 (w1 := (xoW cI cR cS cL x0 b o0 u_)) hD⟩) rfl rfl hl.1 rfl (lv_room (Nat.le_of_ble_eq_true rfl)) dL_law_1171 ⟨by simp only [room_1]; omega, by simp only [room_1]; omega⟩) hS (fun q _ h => hFc q h) hFc (fun r_1171 u_1171 t_ H1 locs ht_ hvm_ hw_1171 hB_ hz_ hk_ hS => ?_)
      obtain ⟨hP, hD⟩ := fr_joinR (w1 := mW cI m0 a 0 σ3) (w1' := mW cI m0 a u_1171.1 u_1171.2) (w2 := (xoW cI cR cS cL x0 b o0 u_)) hP hD hAH hk_ (by rw [← ht_]; exact hB_) (va_D_fst (vD_app2 (w1 := (xoW cI cR cS cL x0 b o0 u_)) hD).self rfl)
      obtain ⟨f5, rfl⟩ := hw_1171
      have hP : va_P dD vwCl ((xoW cI cR cS cL x0 b o0 u_) ++ mW cI m0 a 0 σ3) H1 := by rw [f5] at hP; exact hP
      have hD : va_D (fun q => s.heap.size ≤ q) ((xoW cI cR cS cL x0 b o0 u_) ++ mW cI m0 a 0 σ3) := by rw [f5] at hD; exact hD
      refine lv_iload hx hb dL_law_1174 (lv_at hl 1 rfl) ?_
      refine nv_eq (tgt := 1181) hx hb dL_law_1176 (by decide) (by decide) (by decide) (fun c_1176 => ?_) (fun c_1176 => absurd c_1176 (by decide))
      refine lv_iload hx hb dL_law_1181 (lv_at hl 1 rfl) ?_
      refine nv_if_ne (tgt := 1198) hx hb dL_law_1183 (by decide) (by decide) (fun c_1183 => absurd c_1183 (by decide)) (fun c_1183 => ?_)
      refine lv_aload_n hx hb dL_law_1186 rfl (lv_at hl 5 rfl) ?_
      refine lv_iconst (v := nI 0) hx hb dL_law_1187 (by decide +kernel) ?_
      refine va_lald hx hb hKL hP 0 0 rfl rfl (vp_in_nI (by decide) (by decide)) dL_law_1188 ?_
      rw [show (nI 0).toNatClampNeg = 0 from by decide, hout]
      refine lv_iload hx hb dL_law_1189 (lv_at hl 0 rfl) ?_
      refine lv_i2l (v := (r_1165).toInt64) hx hb dL_law_1191 rfl ?_
      refine W.lcmp hx hb dL_law_1192 ?_
      rw [lg_self]
      refine lv_if_eq (tgt := 1198) hx hb dL_law_1193 (by decide) (fun c_1193 => ?_) (fun c_1193 => absurd rfl c_1193)
      refine lv_goto (tgt := 1277) hx hb dL_law_1198 (by decide) ?_
      refine W.widen (k := 108 + 8 * j) (n := 3064 + 64 * j) (by omega) (by omega) ?_
      exact hn u_ 0 H1 locs hok (by rw [hs]; exact hP) (by rw [hs]; exact hD) hS ls (lv_sub hl [2, 3, 4, 5, 6] rfl)
    · exact absurd g1 f1
    · exact absurd g2 f2
  · rcases hw_1165 with ⟨f1, f2, f3, f4⟩ | ⟨f1, f3⟩ | ⟨f1, f2, f3⟩
    · exact absurd f1 g1
    · obtain ⟨rfl, hs3⟩ := Prod.mk.inj f3
      have hs : u_.1 = σ3 := g3.trans hs3.symm
      have hI3 : sI σ3 := by rw [← hs]; exact hok.1
      have hP : va_P dD vwCl ((xoW cI cR cS cL x0 b o0 u_) ++ mW cI m0 a 1 σ3) H1 := hP
      have hD : va_D (fun q => s.heap.size ≤ q) ((xoW cI cR cS cL x0 b o0 u_) ++ mW cI m0 a 1 σ3) := hD
      refine lv_istore (lv' := [(6, .int r_1165), (5, .int (nI 1)), (0, .ref bq), (1, .ref x0), (2, .ref m0), (3, .ref o0), (4, .int (nI (5 * j)))]) hx hb dL_law_1168 hl (by decide) rfl (fun ls hl => ?_)
      refine lv_aload_n hx hb dL_law_1170 rfl (lv_at hl 4 rfl) ?_
      have hAH : ∀ q : Nat, H1.size ≤ q → s.heap.size ≤ q := fun q h => Nat.le_trans hS.1 h
      have hFc := fr_freeR (w1 := mW cI m0 a 1 σ3) (w2 := (xoW cI cR cS cL x0 b o0 u_)) hD hAH
      refine va_calli (va_runV (As := []) (rest := []) ⟨hx, hb, hml, hown, hts⟩ (c_X3_thrown l dD cI cR cS s.heap.size H1.size hS.1 m0 a 1 σ3 hI3 ) (cwV 0 hts gL_law_X3_thrown rfl rfl rfl (by decide +kernel) ⟨Nat.le_of_ble_eq_true rfl, Nat.le_of_ble_eq_true rfl⟩) (ePreV hE hS (vP_app2 (w1 := (xoW cI cR cS cL x0 b o0 u_)) hP) (k := 0) rfl rfl ⟨rfl, vP_app2 (w1 := (xoW cI cR cS cL x0 b o0 u_)) hP, vD_app2 (w1 := (xoW cI cR cS cL x0 b o0 u_)) hD⟩) rfl rfl hl.1 rfl (lv_room (Nat.le_of_ble_eq_true rfl)) dL_law_1171 ⟨by simp only [room_1]; omega, by simp only [room_1]; omega⟩) hS (fun q _ h => hFc q h) hFc (fun r_1171 u_1171 t_ H1 locs ht_ hvm_ hw_1171 hB_ hz_ hk_ hS => ?_)
      obtain ⟨hP, hD⟩ := fr_joinR (w1 := mW cI m0 a 1 σ3) (w1' := mW cI m0 a u_1171.1 u_1171.2) (w2 := (xoW cI cR cS cL x0 b o0 u_)) hP hD hAH hk_ (by rw [← ht_]; exact hB_) (va_D_fst (vD_app2 (w1 := (xoW cI cR cS cL x0 b o0 u_)) hD).self rfl)
      obtain ⟨f5, rfl⟩ := hw_1171
      have hP : va_P dD vwCl ((xoW cI cR cS cL x0 b o0 u_) ++ mW cI m0 a 1 σ3) H1 := by rw [f5] at hP; exact hP
      have hD : va_D (fun q => s.heap.size ≤ q) ((xoW cI cR cS cL x0 b o0 u_) ++ mW cI m0 a 1 σ3) := by rw [f5] at hD; exact hD
      refine lv_iload hx hb dL_law_1174 (lv_at hl 1 rfl) ?_
      refine nv_eq (tgt := 1181) hx hb dL_law_1176 (by decide) (by decide) (by decide) (fun c_1176 => ?_) (fun c_1176 => absurd c_1176 (by decide))
      refine lv_iload hx hb dL_law_1181 (lv_at hl 1 rfl) ?_
      refine nv_if_ne (tgt := 1198) hx hb dL_law_1183 (by decide) (by decide) (fun c_1183 => ?_) (fun c_1183 => absurd c_1183 (by decide))
      refine lv_goto (tgt := 1277) hx hb dL_law_1198 (by decide) ?_
      refine W.widen (k := 108 + 8 * j) (n := 3064 + 64 * j) (by omega) (by omega) ?_
      exact hn u_ 1 H1 locs hok (by rw [hs]; exact hP) (by rw [hs]; exact hD) hS ls (lv_sub hl [2, 3, 4, 5, 6] rfl)
    · exact absurd f1 g1
  · rcases hw_1165 with ⟨f1, f2, f3, f4⟩ | ⟨f1, f3⟩ | ⟨f1, f2, f3⟩
    · exact absurd f2 g2
    · exact absurd g1 f1
    · obtain ⟨rfl, hs3⟩ := Prod.mk.inj f3
      have hs : u_.1 = σ3 := g3.trans hs3.symm
      have hI3 : sI σ3 := by rw [← hs]; exact hok.1
      have hP : va_P dD vwCl ((xoW cI cR cS cL x0 b o0 u_) ++ mW cI m0 a 2 σ3) H1 := hP
      have hD : va_D (fun q => s.heap.size ≤ q) ((xoW cI cR cS cL x0 b o0 u_) ++ mW cI m0 a 2 σ3) := hD
      refine lv_istore (lv' := [(6, .int r_1165), (5, .int (nI 2)), (0, .ref bq), (1, .ref x0), (2, .ref m0), (3, .ref o0), (4, .int (nI (5 * j)))]) hx hb dL_law_1168 hl (by decide) rfl (fun ls hl => ?_)
      refine lv_aload_n hx hb dL_law_1170 rfl (lv_at hl 4 rfl) ?_
      have hAH : ∀ q : Nat, H1.size ≤ q → s.heap.size ≤ q := fun q h => Nat.le_trans hS.1 h
      have hFc := fr_freeR (w1 := mW cI m0 a 2 σ3) (w2 := (xoW cI cR cS cL x0 b o0 u_)) hD hAH
      refine va_calli (va_runV (As := []) (rest := []) ⟨hx, hb, hml, hown, hts⟩ (c_X3_thrown l dD cI cR cS s.heap.size H1.size hS.1 m0 a 2 σ3 hI3 ) (cwV 0 hts gL_law_X3_thrown rfl rfl rfl (by decide +kernel) ⟨Nat.le_of_ble_eq_true rfl, Nat.le_of_ble_eq_true rfl⟩) (ePreV hE hS (vP_app2 (w1 := (xoW cI cR cS cL x0 b o0 u_)) hP) (k := 0) rfl rfl ⟨rfl, vP_app2 (w1 := (xoW cI cR cS cL x0 b o0 u_)) hP, vD_app2 (w1 := (xoW cI cR cS cL x0 b o0 u_)) hD⟩) rfl rfl hl.1 rfl (lv_room (Nat.le_of_ble_eq_true rfl)) dL_law_1171 ⟨by simp only [room_1]; omega, by simp only [room_1]; omega⟩) hS (fun q _ h => hFc q h) hFc (fun r_1171 u_1171 t_ H1 locs ht_ hvm_ hw_1171 hB_ hz_ hk_ hS => ?_)
      obtain ⟨hP, hD⟩ := fr_joinR (w1 := mW cI m0 a 2 σ3) (w1' := mW cI m0 a u_1171.1 u_1171.2) (w2 := (xoW cI cR cS cL x0 b o0 u_)) hP hD hAH hk_ (by rw [← ht_]; exact hB_) (va_D_fst (vD_app2 (w1 := (xoW cI cR cS cL x0 b o0 u_)) hD).self rfl)
      obtain ⟨f5, rfl⟩ := hw_1171
      have hP : va_P dD vwCl ((xoW cI cR cS cL x0 b o0 u_) ++ mW cI m0 a 2 σ3) H1 := by rw [f5] at hP; exact hP
      have hD : va_D (fun q => s.heap.size ≤ q) ((xoW cI cR cS cL x0 b o0 u_) ++ mW cI m0 a 2 σ3) := by rw [f5] at hD; exact hD
      refine lv_iload hx hb dL_law_1174 (lv_at hl 1 rfl) ?_
      refine nv_eq (tgt := 1181) hx hb dL_law_1176 (by decide) (by decide) (by decide) (fun c_1176 => ?_) (fun c_1176 => absurd c_1176 (by decide))
      refine lv_iload hx hb dL_law_1181 (lv_at hl 1 rfl) ?_
      refine nv_if_ne (tgt := 1198) hx hb dL_law_1183 (by decide) (by decide) (fun c_1183 => ?_) (fun c_1183 => absurd c_1183 (by decide))
      refine lv_goto (tgt := 1277) hx hb dL_law_1198 (by decide) ?_
      refine W.widen (k := 108 + 8 * j) (n := 3064 + 64 * j) (by omega) (by omega) ?_
      exact hn u_ 2 H1 locs hok (by rw [hs]; exact hP) (by rw [hs]; exact hD) hS ls (lv_sub hl [2, 3, 4, 5, 6] rfl)

set_option maxHeartbeats 4000000 in
set_option maxRecDepth 100000 in
theorem law_isSound {p : Program} {l : Launch} {e_ : Env} {s : State} {m : MethodId} {below : List Frame} {meth : Method} {c : Code} {bq L : Nat} {xs : Nat → Int32} (hL : L ≤ 2560) (C0 : lw_At p s m meth c bq L xs) (hfl : l.stackTraces = false) {dD : va_G} {cI cR cS cL : ClassId} (hE : eE dD cI cR cS s.heap.size s s.heap) (hKL : va_K dD vwCl [(cL, .long)] s) {x0 m0 o0 : Nat} {b a : Nat → Nat} {j : Nat} (hj : 5 * j + 5 ≤ L) (hn : lS p l e_ s m below meth c bq dD cI cR cS cL x0 m0 o0 b a j (108 + 8 * j) (3064 + 64 * j) 1277) : lS p l e_ s m below meth c bq dD cI cR cS cL x0 m0 o0 b a j (100 + 8 * j) (3000 + 64 * j) 1201 := by
  obtain ⟨hx, hb, -, hml, hown, hts, hXs, hbl, hlocks, -⟩ := id C0
  have hown : s.vm.findClass RL = some m.cls := hown
  have hts : ∀ w ∈ wsL_law, w.before #[Value.ref bq] s = true := fun w h => hts w (wsL_law_in w h)
  have hbA : ¬ (fun q : Nat => s.heap.size ≤ q) bq := Nat.not_le.mpr hbl
  have hK := hE.1.1
  intro u th H locs hu hP hD hS ls hl
  obtain ⟨σ, ra, sb, hd, ol, out⟩ := u
  obtain ⟨hI, hX, hJ⟩ := hu
  have hI : sI σ := hI
  have hX : xI σ hd ol := hX
  have hJ : xJ σ hd ol := hJ
  have hP : va_P dD vwCl ((xoW cI cR cS cL x0 b o0 (σ, ra, sb, hd, ol, out)) ++ mW cI m0 a th σ) H := hP
  have hD : va_D (fun q => s.heap.size ≤ q) ((xoW cI cR cS cL x0 b o0 (σ, ra, sb, hd, ol, out)) ++ mW cI m0 a th σ) := hD
  refine lv_aload_n hx hb dL_law_1201 rfl (lv_at hl 1 rfl) ?_
  refine lv_aload_n hx hb dL_law_1202 rfl (lv_at hl 0 rfl) ?_
  refine lv_iload hx hb dL_law_1203 (lv_at hl 4 rfl) ?_
  refine lv_iconst (v := nI 1) hx hb dL_law_1205 (by decide +kernel) ?_
  refine nv_iadd hx hb dL_law_1206 ?_
  refine nv_sld hx hb hXs hbl hbA hS (by omega) (by omega) dL_law_1207 ?_
  refine lv_aload_n hx hb dL_law_1208 rfl (lv_at hl 3 rfl) ?_
  have hAH : ∀ q : Nat, H.size ≤ q → s.heap.size ≤ q := fun q h => Nat.le_trans hS.1 h
  have hFc := fr_free (w1 := (xoW cI cR cS cL x0 b o0 (σ, ra, sb, hd, ol, out))) (w2 := mW cI m0 a th σ) hD hAH
  refine va_calli (vx_runSW (As := [.ref x0, .int (xs ((5 * j) + 1)), .ref o0]) (rest := []) ⟨hx, hb, hml, hown, hts⟩ (c_L_isSound l dD cI cR cS s.heap.size cL hfl H.size hS.1 x0 b o0 ra sb hd ol σ out hI hX hJ (xs ((5 * j) + 1))) (vx_cwSW 3 hts gL_law_L_isSound rfl rfl rfl (by decide +kernel) ⟨Nat.le_of_ble_eq_true rfl, Nat.le_of_ble_eq_true rfl⟩) (lPreS hE hKL hS ⟨rfl, vP_app1 hP, vD_app1 hD⟩) rfl rfl hl.1 rfl (lv_room (Nat.le_of_ble_eq_true rfl)) dL_law_1209 ⟨by simp only [room_1]; omega, by simp only [room_1]; omega⟩) hS (fun q _ h => hFc q h) hFc (fun r_ u_ t_ H1 locs ht_ hvm_ hw1 hB_ hz_ hk_ hS => ?_)
  obtain ⟨hP, hD⟩ := fr_join (w1 := (xoW cI cR cS cL x0 b o0 (σ, ra, sb, hd, ol, out))) (w1' := (xoW cI cR cS cL x0 b o0 u_)) (w2 := mW cI m0 a th σ) hP hD hAH hk_ (by rw [← ht_]; exact hB_.1) hB_.2
  obtain ⟨hw1, hok⟩ := hw1
  refine lv_istore (lv' := [(5, .int r_), (0, .ref bq), (1, .ref x0), (2, .ref m0), (3, .ref o0), (4, .int (nI (5 * j)))]) hx hb dL_law_1212 hl (by decide) rfl (fun ls hl => ?_)
  refine lv_aload_n hx hb dL_law_1214 rfl (lv_at hl 3 rfl) ?_
  refine lv_aload_n hx hb dL_law_1215 rfl (lv_at hl 1 rfl) ?_
  refine lv_iload hx hb dL_law_1216 (lv_at hl 5 rfl) ?_
  refine lv_iconst (v := nI 1) hx hb dL_law_1218 (by decide +kernel) ?_
  refine nv_iadd hx hb dL_law_1219 ?_
  refine nv_sld hx hb hXs hbl hbA hS (by omega) (by omega) dL_law_1220 ?_
  have hAH : ∀ q : Nat, H1.size ≤ q → s.heap.size ≤ q := fun q h => Nat.le_trans hS.1 h
  have hFc := fr_freeR (w1 := mW cI m0 a th σ) (w2 := (xoW cI cR cS cL x0 b o0 u_)) hD hAH
  refine va_calli (va_runV (As := [.int (xs ((5 * j) + 1))]) (rest := []) ⟨hx, hb, hml, hown, hts⟩ (c_X3_isSound l dD cI cR cS s.heap.size H1.size hS.1 m0 a th σ hI (xs ((5 * j) + 1))) (cwV 1 hts gL_law_X3_isSound rfl rfl rfl (by decide +kernel) ⟨Nat.le_of_ble_eq_true rfl, Nat.le_of_ble_eq_true rfl⟩) (ePreV hE hS (vP_app2 (w1 := (xoW cI cR cS cL x0 b o0 u_)) hP) (k := 0) rfl rfl ⟨rfl, vP_app2 (w1 := (xoW cI cR cS cL x0 b o0 u_)) hP, vD_app2 (w1 := (xoW cI cR cS cL x0 b o0 u_)) hD⟩) rfl rfl hl.1 rfl (lv_room (Nat.le_of_ble_eq_true rfl)) dL_law_1221 ⟨by simp only [room_1]; omega, by simp only [room_1]; omega⟩) hS (fun q _ h => hFc q h) hFc (fun r_1221 u_1221 t_ H1 locs ht_ hvm_ hw_1221 hB_ hz_ hk_ hS => ?_)
  obtain ⟨hP, hD⟩ := fr_joinR (w1 := mW cI m0 a th σ) (w1' := mW cI m0 a u_1221.1 u_1221.2) (w2 := (xoW cI cR cS cL x0 b o0 u_)) hP hD hAH hk_ (by rw [← ht_]; exact hB_) (va_D_fst (vD_app2 (w1 := (xoW cI cR cS cL x0 b o0 u_)) hD).self rfl)
  obtain ⟨th3, σ3⟩ := u_1221
  rcases hw1 with ⟨g1, g2, g3, rfl, g5⟩ | ⟨g1, g3, rfl⟩ | ⟨g1, g2, g3, rfl⟩
  · rcases hw_1221 with ⟨f1, f2, f3, f4⟩ | ⟨f1, f3⟩ | ⟨f1, f2, f3⟩
    · obtain ⟨rfl, hs3⟩ := Prod.mk.inj f3
      have hs : u_.1 = σ3 := g3.trans hs3.symm
      have hI3 : sI σ3 := by rw [← hs]; exact hok.1
      have hP : va_P dD vwCl ((xoW cI cR cS cL x0 b o0 u_) ++ mW cI m0 a 0 σ3) H1 := hP
      have hD : va_D (fun q => s.heap.size ≤ q) ((xoW cI cR cS cL x0 b o0 u_) ++ mW cI m0 a 0 σ3) := hD
      have hout : u_.2.2.2.2.2 0 = (r_1221).toInt64 := by rw [g5, f4]
      refine lv_istore (lv' := [(6, .int r_1221), (5, .int (nI 0)), (0, .ref bq), (1, .ref x0), (2, .ref m0), (3, .ref o0), (4, .int (nI (5 * j)))]) hx hb dL_law_1224 hl (by decide) rfl (fun ls hl => ?_)
      refine lv_aload_n hx hb dL_law_1226 rfl (lv_at hl 4 rfl) ?_
      have hAH : ∀ q : Nat, H1.size ≤ q → s.heap.size ≤ q := fun q h => Nat.le_trans hS.1 h
      have hFc := fr_freeR (w1 := mW cI m0 a 0 σ3) (w2 := (xoW cI cR cS cL x0 b o0 u_)) hD hAH
      refine va_calli (va_runV (As := []) (rest := []) ⟨hx, hb, hml, hown, hts⟩ (c_X3_thrown l dD cI cR cS s.heap.size H1.size hS.1 m0 a 0 σ3 hI3 ) (cwV 0 hts gL_law_X3_thrown rfl rfl rfl (by decide +kernel) ⟨Nat.le_of_ble_eq_true rfl, Nat.le_of_ble_eq_true rfl⟩) (ePreV hE hS (vP_app2 (w1 := (xoW cI cR cS cL x0 b o0 u_)) hP) (k := 0) rfl rfl ⟨rfl, vP_app2 (w1 := (xoW cI cR cS cL x0 b o0 u_)) hP, vD_app2 (w1 := (xoW cI cR cS cL x0 b o0 u_)) hD⟩) rfl rfl hl.1 rfl (lv_room (Nat.le_of_ble_eq_true rfl)) dL_law_1227 ⟨by simp only [room_1]; omega, by simp only [room_1]; omega⟩) hS (fun q _ h => hFc q h) hFc (fun r_1227 u_1227 t_ H1 locs ht_ hvm_ hw_1227 hB_ hz_ hk_ hS => ?_)
      obtain ⟨hP, hD⟩ := fr_joinR (w1 := mW cI m0 a 0 σ3) (w1' := mW cI m0 a u_1227.1 u_1227.2) (w2 := (xoW cI cR cS cL x0 b o0 u_)) hP hD hAH hk_ (by rw [← ht_]; exact hB_) (va_D_fst (vD_app2 (w1 := (xoW cI cR cS cL x0 b o0 u_)) hD).self rfl)
      obtain ⟨f5, rfl⟩ := hw_1227
      have hP : va_P dD vwCl ((xoW cI cR cS cL x0 b o0 u_) ++ mW cI m0 a 0 σ3) H1 := by rw [f5] at hP; exact hP
      have hD : va_D (fun q => s.heap.size ≤ q) ((xoW cI cR cS cL x0 b o0 u_) ++ mW cI m0 a 0 σ3) := by rw [f5] at hD; exact hD
      refine lv_iload hx hb dL_law_1230 (lv_at hl 1 rfl) ?_
      refine nv_eq (tgt := 1237) hx hb dL_law_1232 (by decide) (by decide) (by decide) (fun c_1232 => ?_) (fun c_1232 => absurd c_1232 (by decide))
      refine lv_iload hx hb dL_law_1237 (lv_at hl 1 rfl) ?_
      refine nv_if_ne (tgt := 1261) hx hb dL_law_1239 (by decide) (by decide) (fun c_1239 => absurd c_1239 (by decide)) (fun c_1239 => ?_)
      refine lv_aload_n hx hb dL_law_1242 rfl (lv_at hl 5 rfl) ?_
      refine lv_iconst (v := nI 0) hx hb dL_law_1243 (by decide +kernel) ?_
      refine va_lald hx hb hKL hP 0 0 rfl rfl (vp_in_nI (by decide) (by decide)) dL_law_1244 ?_
      rw [show (nI 0).toNatClampNeg = 0 from by decide, hout]
      refine lv_iload hx hb dL_law_1245 (lv_at hl 0 rfl) ?_
      refine lv_if_eq (tgt := 1254) hx hb dL_law_1247 (by decide) (fun c_1247 => ?_) (fun c_1247 => ?_)
      · refine lv_lconst (v := 0) hx hb dL_law_1254 (by decide +kernel) ?_
        have hr2 : r_1221 = nI 0 := c_1247
        rw [hr2, show (nI 0).toInt64 = 0 from by decide]
        refine W.lcmp hx hb dL_law_1255 ?_
        rw [lg_self]
        refine lv_if_eq (tgt := 1261) hx hb dL_law_1256 (by decide) (fun c_1256 => ?_) (fun c_1256 => absurd rfl c_1256)
        refine lv_goto (tgt := 1277) hx hb dL_law_1261 (by decide) ?_
        refine W.widen (k := 108 + 8 * j) (n := 3064 + 64 * j) (by omega) (by omega) ?_
        exact hn u_ 0 H1 locs hok (by rw [hs]; exact hP) (by rw [hs]; exact hD) hS ls (lv_sub hl [2, 3, 4, 5, 6] rfl)
      · refine lv_lconst (v := 1) hx hb dL_law_1250 (by decide +kernel) ?_
        refine lv_goto (tgt := 1255) hx hb dL_law_1251 (by decide) ?_
        have hr2 : r_1221 = nI 1 := by rcases q_snd_01 _ _ with h9 | h9 <;> rw [f4, h9] at c_1247 ⊢; exact absurd rfl c_1247
        rw [hr2, show (nI 1).toInt64 = 1 from by decide]
        refine W.lcmp hx hb dL_law_1255 ?_
        rw [lg_self]
        refine lv_if_eq (tgt := 1261) hx hb dL_law_1256 (by decide) (fun c_1256 => ?_) (fun c_1256 => absurd rfl c_1256)
        refine lv_goto (tgt := 1277) hx hb dL_law_1261 (by decide) ?_
        refine W.widen (k := 108 + 8 * j) (n := 3064 + 64 * j) (by omega) (by omega) ?_
        exact hn u_ 0 H1 locs hok (by rw [hs]; exact hP) (by rw [hs]; exact hD) hS ls (lv_sub hl [2, 3, 4, 5, 6] rfl)
    · exact absurd g1 f1
    · exact absurd g2 f2
  · rcases hw_1221 with ⟨f1, f2, f3, f4⟩ | ⟨f1, f3⟩ | ⟨f1, f2, f3⟩
    · exact absurd f1 g1
    · obtain ⟨rfl, hs3⟩ := Prod.mk.inj f3
      have hs : u_.1 = σ3 := g3.trans hs3.symm
      have hI3 : sI σ3 := by rw [← hs]; exact hok.1
      have hP : va_P dD vwCl ((xoW cI cR cS cL x0 b o0 u_) ++ mW cI m0 a 1 σ3) H1 := hP
      have hD : va_D (fun q => s.heap.size ≤ q) ((xoW cI cR cS cL x0 b o0 u_) ++ mW cI m0 a 1 σ3) := hD
      refine lv_istore (lv' := [(6, .int r_1221), (5, .int (nI 1)), (0, .ref bq), (1, .ref x0), (2, .ref m0), (3, .ref o0), (4, .int (nI (5 * j)))]) hx hb dL_law_1224 hl (by decide) rfl (fun ls hl => ?_)
      refine lv_aload_n hx hb dL_law_1226 rfl (lv_at hl 4 rfl) ?_
      have hAH : ∀ q : Nat, H1.size ≤ q → s.heap.size ≤ q := fun q h => Nat.le_trans hS.1 h
      have hFc := fr_freeR (w1 := mW cI m0 a 1 σ3) (w2 := (xoW cI cR cS cL x0 b o0 u_)) hD hAH
      refine va_calli (va_runV (As := []) (rest := []) ⟨hx, hb, hml, hown, hts⟩ (c_X3_thrown l dD cI cR cS s.heap.size H1.size hS.1 m0 a 1 σ3 hI3 ) (cwV 0 hts gL_law_X3_thrown rfl rfl rfl (by decide +kernel) ⟨Nat.le_of_ble_eq_true rfl, Nat.le_of_ble_eq_true rfl⟩) (ePreV hE hS (vP_app2 (w1 := (xoW cI cR cS cL x0 b o0 u_)) hP) (k := 0) rfl rfl ⟨rfl, vP_app2 (w1 := (xoW cI cR cS cL x0 b o0 u_)) hP, vD_app2 (w1 := (xoW cI cR cS cL x0 b o0 u_)) hD⟩) rfl rfl hl.1 rfl (lv_room (Nat.le_of_ble_eq_true rfl)) dL_law_1227 ⟨by simp only [room_1]; omega, by simp only [room_1]; omega⟩) hS (fun q _ h => hFc q h) hFc (fun r_1227 u_1227 t_ H1 locs ht_ hvm_ hw_1227 hB_ hz_ hk_ hS => ?_)
      obtain ⟨hP, hD⟩ := fr_joinR (w1 := mW cI m0 a 1 σ3) (w1' := mW cI m0 a u_1227.1 u_1227.2) (w2 := (xoW cI cR cS cL x0 b o0 u_)) hP hD hAH hk_ (by rw [← ht_]; exact hB_) (va_D_fst (vD_app2 (w1 := (xoW cI cR cS cL x0 b o0 u_)) hD).self rfl)
      obtain ⟨f5, rfl⟩ := hw_1227
      have hP : va_P dD vwCl ((xoW cI cR cS cL x0 b o0 u_) ++ mW cI m0 a 1 σ3) H1 := by rw [f5] at hP; exact hP
      have hD : va_D (fun q => s.heap.size ≤ q) ((xoW cI cR cS cL x0 b o0 u_) ++ mW cI m0 a 1 σ3) := by rw [f5] at hD; exact hD
      refine lv_iload hx hb dL_law_1230 (lv_at hl 1 rfl) ?_
      refine nv_eq (tgt := 1237) hx hb dL_law_1232 (by decide) (by decide) (by decide) (fun c_1232 => ?_) (fun c_1232 => absurd c_1232 (by decide))
      refine lv_iload hx hb dL_law_1237 (lv_at hl 1 rfl) ?_
      refine nv_if_ne (tgt := 1261) hx hb dL_law_1239 (by decide) (by decide) (fun c_1239 => ?_) (fun c_1239 => absurd c_1239 (by decide))
      refine lv_goto (tgt := 1277) hx hb dL_law_1261 (by decide) ?_
      refine W.widen (k := 108 + 8 * j) (n := 3064 + 64 * j) (by omega) (by omega) ?_
      exact hn u_ 1 H1 locs hok (by rw [hs]; exact hP) (by rw [hs]; exact hD) hS ls (lv_sub hl [2, 3, 4, 5, 6] rfl)
    · exact absurd f1 g1
  · rcases hw_1221 with ⟨f1, f2, f3, f4⟩ | ⟨f1, f3⟩ | ⟨f1, f2, f3⟩
    · exact absurd f2 g2
    · exact absurd g1 f1
    · obtain ⟨rfl, hs3⟩ := Prod.mk.inj f3
      have hs : u_.1 = σ3 := g3.trans hs3.symm
      have hI3 : sI σ3 := by rw [← hs]; exact hok.1
      have hP : va_P dD vwCl ((xoW cI cR cS cL x0 b o0 u_) ++ mW cI m0 a 2 σ3) H1 := hP
      have hD : va_D (fun q => s.heap.size ≤ q) ((xoW cI cR cS cL x0 b o0 u_) ++ mW cI m0 a 2 σ3) := hD
      refine lv_istore (lv' := [(6, .int r_1221), (5, .int (nI 2)), (0, .ref bq), (1, .ref x0), (2, .ref m0), (3, .ref o0), (4, .int (nI (5 * j)))]) hx hb dL_law_1224 hl (by decide) rfl (fun ls hl => ?_)
      refine lv_aload_n hx hb dL_law_1226 rfl (lv_at hl 4 rfl) ?_
      have hAH : ∀ q : Nat, H1.size ≤ q → s.heap.size ≤ q := fun q h => Nat.le_trans hS.1 h
      have hFc := fr_freeR (w1 := mW cI m0 a 2 σ3) (w2 := (xoW cI cR cS cL x0 b o0 u_)) hD hAH
      refine va_calli (va_runV (As := []) (rest := []) ⟨hx, hb, hml, hown, hts⟩ (c_X3_thrown l dD cI cR cS s.heap.size H1.size hS.1 m0 a 2 σ3 hI3 ) (cwV 0 hts gL_law_X3_thrown rfl rfl rfl (by decide +kernel) ⟨Nat.le_of_ble_eq_true rfl, Nat.le_of_ble_eq_true rfl⟩) (ePreV hE hS (vP_app2 (w1 := (xoW cI cR cS cL x0 b o0 u_)) hP) (k := 0) rfl rfl ⟨rfl, vP_app2 (w1 := (xoW cI cR cS cL x0 b o0 u_)) hP, vD_app2 (w1 := (xoW cI cR cS cL x0 b o0 u_)) hD⟩) rfl rfl hl.1 rfl (lv_room (Nat.le_of_ble_eq_true rfl)) dL_law_1227 ⟨by simp only [room_1]; omega, by simp only [room_1]; omega⟩) hS (fun q _ h => hFc q h) hFc (fun r_1227 u_1227 t_ H1 locs ht_ hvm_ hw_1227 hB_ hz_ hk_ hS => ?_)
      obtain ⟨hP, hD⟩ := fr_joinR (w1 := mW cI m0 a 2 σ3) (w1' := mW cI m0 a u_1227.1 u_1227.2) (w2 := (xoW cI cR cS cL x0 b o0 u_)) hP hD hAH hk_ (by rw [← ht_]; exact hB_) (va_D_fst (vD_app2 (w1 := (xoW cI cR cS cL x0 b o0 u_)) hD).self rfl)
      obtain ⟨f5, rfl⟩ := hw_1227
      have hP : va_P dD vwCl ((xoW cI cR cS cL x0 b o0 u_) ++ mW cI m0 a 2 σ3) H1 := by rw [f5] at hP; exact hP
      have hD : va_D (fun q => s.heap.size ≤ q) ((xoW cI cR cS cL x0 b o0 u_) ++ mW cI m0 a 2 σ3) := by rw [f5] at hD; exact hD
      refine lv_iload hx hb dL_law_1230 (lv_at hl 1 rfl) ?_
      refine nv_eq (tgt := 1237) hx hb dL_law_1232 (by decide) (by decide) (by decide) (fun c_1232 => ?_) (fun c_1232 => absurd c_1232 (by decide))
      refine lv_iload hx hb dL_law_1237 (lv_at hl 1 rfl) ?_
      refine nv_if_ne (tgt := 1261) hx hb dL_law_1239 (by decide) (by decide) (fun c_1239 => ?_) (fun c_1239 => absurd c_1239 (by decide))
      refine lv_goto (tgt := 1277) hx hb dL_law_1261 (by decide) ?_
      refine W.widen (k := 108 + 8 * j) (n := 3064 + 64 * j) (by omega) (by omega) ?_
      exact hn u_ 2 H1 locs hok (by rw [hs]; exact hP) (by rw [hs]; exact hD) hS ls (lv_sub hl [2, 3, 4, 5, 6] rfl)

set_option maxHeartbeats 4000000 in
set_option maxRecDepth 100000 in
theorem law_unsound {p : Program} {l : Launch} {e_ : Env} {s : State} {m : MethodId} {below : List Frame} {meth : Method} {c : Code} {bq L : Nat} {xs : Nat → Int32} (hL : L ≤ 2560) (C0 : lw_At p s m meth c bq L xs) (hfl : l.stackTraces = false) {dD : va_G} {cI cR cS cL : ClassId} (hE : eE dD cI cR cS s.heap.size s s.heap) (hKL : va_K dD vwCl [(cL, .long)] s) {x0 m0 o0 : Nat} {b a : Nat → Nat} {j : Nat} (hj : 5 * j + 5 ≤ L) (hn : lS p l e_ s m below meth c bq dD cI cR cS cL x0 m0 o0 b a j (108 + 8 * j) (3064 + 64 * j) 1277) : lS p l e_ s m below meth c bq dD cI cR cS cL x0 m0 o0 b a j (100 + 8 * j) (3000 + 64 * j) 1264 := by
  obtain ⟨hx, hb, -, hml, hown, hts, hXs, hbl, hlocks, -⟩ := id C0
  have hown : s.vm.findClass RL = some m.cls := hown
  have hts : ∀ w ∈ wsL_law, w.before #[Value.ref bq] s = true := fun w h => hts w (wsL_law_in w h)
  have hbA : ¬ (fun q : Nat => s.heap.size ≤ q) bq := Nat.not_le.mpr hbl
  have hK := hE.1.1
  intro u th H locs hu hP hD hS ls hl
  obtain ⟨σ, ra, sb, hd, ol, out⟩ := u
  obtain ⟨hI, hX, hJ⟩ := hu
  have hI : sI σ := hI
  have hX : xI σ hd ol := hX
  have hJ : xJ σ hd ol := hJ
  have hP : va_P dD vwCl ((xoW cI cR cS cL x0 b o0 (σ, ra, sb, hd, ol, out)) ++ mW cI m0 a th σ) H := hP
  have hD : va_D (fun q => s.heap.size ≤ q) ((xoW cI cR cS cL x0 b o0 (σ, ra, sb, hd, ol, out)) ++ mW cI m0 a th σ) := hD
  refine lv_aload_n hx hb dL_law_1264 rfl (lv_at hl 1 rfl) ?_
  refine vp_callSi (va_Run.run (va_runV (As := []) (rest := []) ⟨hx, hb, hml, hown, hts⟩ (c_X2_unsound l dD cI cR cS s.heap.size x0 b ra sb hd ol σ hI hX) (cwV 0 hts gL_law_X2_unsound rfl rfl rfl (by decide +kernel) ⟨Nat.le_of_ble_eq_true rfl, Nat.le_of_ble_eq_true rfl⟩) (ePreV hE hS hP (k := 1) rfl rfl (vP_app2 (w1 := [(o0, .inl (cL, 1, .inr (.inl out)))]) (vP_app1 hP))) rfl rfl hl.1 rfl (lv_room (Nat.le_of_ble_eq_true rfl)) dL_law_1265 ⟨by simp only [room_1]; omega, by simp only [room_1]; omega⟩)) (fun r_1265 hr_1265 => ?_)
  subst hr_1265
  refine lv_aload_n hx hb dL_law_1268 rfl (lv_at hl 2 rfl) ?_
  have hAH : ∀ q : Nat, H.size ≤ q → s.heap.size ≤ q := fun q h => Nat.le_trans hS.1 h
  have hFc := fr_freeR (w1 := mW cI m0 a th σ) (w2 := (xoW cI cR cS cL x0 b o0 (σ, ra, sb, hd, ol, out))) hD hAH
  refine va_calli (va_runV (As := []) (rest := [.int (nI (q_uns σ (s_k σ)))]) ⟨hx, hb, hml, hown, hts⟩ (c_X3_unsound l dD cI cR cS s.heap.size H.size hS.1 m0 a th σ hI ) (cwV 0 hts gL_law_X3_unsound rfl rfl rfl (by decide +kernel) ⟨Nat.le_of_ble_eq_true rfl, Nat.le_of_ble_eq_true rfl⟩) (ePreV hE hS (vP_app2 (w1 := (xoW cI cR cS cL x0 b o0 (σ, ra, sb, hd, ol, out))) hP) (k := 0) rfl rfl ⟨rfl, vP_app2 (w1 := (xoW cI cR cS cL x0 b o0 (σ, ra, sb, hd, ol, out))) hP, vD_app2 (w1 := (xoW cI cR cS cL x0 b o0 (σ, ra, sb, hd, ol, out))) hD⟩) rfl rfl hl.1 rfl (lv_room (Nat.le_of_ble_eq_true rfl)) dL_law_1269 ⟨by simp only [room_1]; omega, by simp only [room_1]; omega⟩) hS (fun q _ h => hFc q h) hFc (fun r_1269 u_1269 t_ H1 locs ht_ hvm_ hw_1269 hB_ hz_ hk_ hS => ?_)
  obtain ⟨hP, hD⟩ := fr_joinR (w1 := mW cI m0 a th σ) (w1' := mW cI m0 a u_1269.1 u_1269.2) (w2 := (xoW cI cR cS cL x0 b o0 (σ, ra, sb, hd, ol, out))) hP hD hAH hk_ (by rw [← ht_]; exact hB_) (va_D_fst (vD_app2 (w1 := (xoW cI cR cS cL x0 b o0 (σ, ra, sb, hd, ol, out))) hD).self rfl)
  obtain ⟨f5, rfl⟩ := hw_1269
  have hP : va_P dD vwCl ((xoW cI cR cS cL x0 b o0 (σ, ra, sb, hd, ol, out)) ++ mW cI m0 a 0 σ) H1 := by rw [f5] at hP; exact hP
  have hD : va_D (fun q => s.heap.size ≤ q) ((xoW cI cR cS cL x0 b o0 (σ, ra, sb, hd, ol, out)) ++ mW cI m0 a 0 σ) := by rw [f5] at hD; exact hD
  refine lv_icmp_eq (tgt := 1277) hx hb dL_law_1272 (by decide) (fun c_1272 => ?_) (fun c_1272 => absurd rfl c_1272)
  refine W.widen (k := 108 + 8 * j) (n := 3064 + 64 * j) (by omega) (by omega) ?_
  exact hn (σ, ra, sb, hd, ol, out) 0 H1 locs ⟨hI, hX, hJ⟩ hP hD hS ls (lv_sub hl [0, 1, 2, 3, 4] rfl)
