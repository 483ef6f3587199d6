/-! the law's cases (laid by wip/whole/gen/lawcases.py) -/
set_option maxHeartbeats 4000000 in
set_option maxRecDepth 100000 in
theorem law_revised {p : Program} {l : Launch} {e_ : Env} {s : State} {m : MethodId} {below : List Frame} {meth : Method} {c : Code} {bq L : Nat} {xs : Nat → Int32} (hL : L ≤ 2560) (C0 : lw_At p s m meth c bq L xs) (hfl : l.stackTraces = false) {dD : va_G} {cI cR cS cL : ClassId} (hE : eE dD cI cR cS s.heap.size s s.heap) (hKL : va_K dD vwCl [(cL, .long)] s) {x0 m0 o0 : Nat} {b a : Nat → Nat} {j : Nat} (hj : 5 * j + 5 ≤ L) (hn : lS p l e_ s m below meth c bq dD cI cR cS cL x0 m0 o0 b a j (108 + 8 * j) (3064 + 64 * j) 1277) : lS p l e_ s m below meth c bq dD cI cR cS cL x0 m0 o0 b a j (100 + 8 * j) (3000 + 64 * j) 834 := by
  obtain ⟨hx, hb, -, hml, hown, hts, hXs, hbl, hlocks, -⟩ := id C0
  have hown : s.vm.findClass RL = some m.cls := hown
  have hts : ∀ w ∈ wsL_law, w.before #[Value.ref bq] s = true := fun w h => hts w (wsL_law_in w h)
  have hbA : ¬ (fun q : Nat => s.heap.size ≤ q) bq := Nat.not_le.mpr hbl
  have hK := hE.1.1
  intro u th H locs hu hP hD hS ls hl
  obtain ⟨σ, ra, sb, hd, ol, out⟩ := u
  obtain ⟨hI, hX, hJ⟩ := hu
  have hI : sI σ := hI
  have hX : xI σ hd ol := hX
  have hJ : xJ σ hd ol := hJ
  have hP : va_P dD vwCl ((xoW cI cR cS cL x0 b o0 (σ, ra, sb, hd, ol, out)) ++ mW cI m0 a th σ) H := hP
  have hD : va_D (fun q => s.heap.size ≤ q) ((xoW cI cR cS cL x0 b o0 (σ, ra, sb, hd, ol, out)) ++ mW cI m0 a th σ) := hD
  refine lv_aload_n hx hb dL_law_834 rfl (lv_at hl 1 rfl) ?_
  refine lv_aload_n hx hb dL_law_835 rfl (lv_at hl 0 rfl) ?_
  refine lv_iload hx hb dL_law_836 (lv_at hl 4 rfl) ?_
  refine lv_iconst (v := nI 1) hx hb dL_law_838 (by decide +kernel) ?_
  refine nv_iadd hx hb dL_law_839 ?_
  refine nv_sld hx hb hXs hbl hbA hS (by omega) (by omega) dL_law_840 ?_
  refine lv_aload_n hx hb dL_law_841 rfl (lv_at hl 0 rfl) ?_
  refine lv_iload hx hb dL_law_842 (lv_at hl 4 rfl) ?_
  refine lv_iconst (v := nI 2) hx hb dL_law_844 (by decide +kernel) ?_
  refine nv_iadd hx hb dL_law_845 ?_
  refine nv_sld hx hb hXs hbl hbA hS (by omega) (by omega) dL_law_846 ?_
  refine lv_aload_n hx hb dL_law_847 rfl (lv_at hl 0 rfl) ?_
  refine lv_iload hx hb dL_law_848 (lv_at hl 4 rfl) ?_
  refine lv_iconst (v := nI 3) hx hb dL_law_850 (by decide +kernel) ?_
  refine nv_iadd hx hb dL_law_851 ?_
  refine nv_sld hx hb hXs hbl hbA hS (by omega) (by omega) dL_law_852 ?_
  refine lv_aload_n hx hb dL_law_853 rfl (lv_at hl 3 rfl) ?_
  have hAH : ∀ q : Nat, H.size ≤ q → s.heap.size ≤ q := fun q h => Nat.le_trans hS.1 h
  have hFc := fr_free (w1 := (xoW cI cR cS cL x0 b o0 (σ, ra, sb, hd, ol, out))) (w2 := mW cI m0 a th σ) hD hAH
  refine va_calli (vx_runSW (As := [.ref x0, .int (xs ((5 * j) + 1)), .int (xs ((5 * j) + 2)), .int (xs ((5 * j) + 3)), .ref o0]) (rest := []) ⟨hx, hb, hml, hown, hts⟩ (c_L_revised l dD cI cR cS s.heap.size cL hfl H.size hS.1 x0 b o0 ra sb hd ol σ out hI hX hJ (xs ((5 * j) + 1)) (xs ((5 * j) + 2)) (xs ((5 * j) + 3))) (vx_cwSW 5 hts gL_law_L_revised rfl rfl rfl (by decide +kernel) ⟨Nat.le_of_ble_eq_true rfl, Nat.le_of_ble_eq_true rfl⟩) (lPreS hE hKL hS ⟨rfl, vP_app1 hP, vD_app1 hD⟩) rfl rfl hl.1 rfl (lv_room (Nat.le_of_ble_eq_true rfl)) dL_law_854 ⟨by simp only [room_1]; omega, by simp only [room_1]; omega⟩) hS (fun q _ h => hFc q h) hFc (fun r_ u_ t_ H1 locs ht_ hvm_ hw1 hB_ hz_ hk_ hS => ?_)
  obtain ⟨hP, hD⟩ := fr_join (w1 := (xoW cI cR cS cL x0 b o0 (σ, ra, sb, hd, ol, out))) (w1' := (xoW cI cR cS cL x0 b o0 u_)) (w2 := mW cI m0 a th σ) hP hD hAH hk_ (by rw [← ht_]; exact hB_.1) hB_.2
  obtain ⟨hw1, hok⟩ := hw1
  refine lv_istore (lv' := [(5, .int r_), (0, .ref bq), (1, .ref x0), (2, .ref m0), (3, .ref o0), (4, .int (nI (5 * j)))]) hx hb dL_law_857 hl (by decide) rfl (fun ls hl => ?_)
  refine lv_aload_n hx hb dL_law_859 rfl (lv_at hl 3 rfl) ?_
  refine lv_aload_n hx hb dL_law_860 rfl (lv_at hl 1 rfl) ?_
  refine lv_iload hx hb dL_law_861 (lv_at hl 5 rfl) ?_
  refine lv_iconst (v := nI 1) hx hb dL_law_863 (by decide +kernel) ?_
  refine nv_iadd hx hb dL_law_864 ?_
  refine nv_sld hx hb hXs hbl hbA hS (by omega) (by omega) dL_law_865 ?_
  refine lv_aload_n hx hb dL_law_866 rfl (lv_at hl 1 rfl) ?_
  refine lv_iload hx hb dL_law_867 (lv_at hl 5 rfl) ?_
  refine lv_iconst (v := nI 2) hx hb dL_law_869 (by decide +kernel) ?_
  refine nv_iadd hx hb dL_law_870 ?_
  refine nv_sld hx hb hXs hbl hbA hS (by omega) (by omega) dL_law_871 ?_
  refine lv_aload_n hx hb dL_law_872 rfl (lv_at hl 1 rfl) ?_
  refine lv_iload hx hb dL_law_873 (lv_at hl 5 rfl) ?_
  refine lv_iconst (v := nI 3) hx hb dL_law_875 (by decide +kernel) ?_
  refine nv_iadd hx hb dL_law_876 ?_
  refine nv_sld hx hb hXs hbl hbA hS (by omega) (by omega) dL_law_877 ?_
  have hAH : ∀ q : Nat, H1.size ≤ q → s.heap.size ≤ q := fun q h => Nat.le_trans hS.1 h
  have hFc := fr_freeR (w1 := mW cI m0 a th σ) (w2 := (xoW cI cR cS cL x0 b o0 u_)) hD hAH
  refine va_calli (va_runV (As := [.int (xs ((5 * j) + 1)), .int (xs ((5 * j) + 2)), .int (xs ((5 * j) + 3))]) (rest := []) ⟨hx, hb, hml, hown, hts⟩ (c_X3_revised l dD cI cR cS s.heap.size H1.size hS.1 m0 a th σ hI (xs ((5 * j) + 1)) (xs ((5 * j) + 2)) (xs ((5 * j) + 3))) (cwV 3 hts gL_law_X3_revised rfl rfl rfl (by decide +kernel) ⟨Nat.le_of_ble_eq_true rfl, Nat.le_of_ble_eq_true rfl⟩) (ePreV hE hS (vP_app2 (w1 := (xoW cI cR cS cL x0 b o0 u_)) hP) (k := 0) rfl rfl ⟨rfl, vP_app2 (w1 := (xoW cI cR cS cL x0 b o0 u_)) hP, vD_app2 (w1 := (xoW cI cR cS cL x0 b o0 u_)) hD⟩) rfl rfl hl.1 rfl (lv_room (Nat.le_of_ble_eq_true rfl)) dL_law_878 ⟨by simp only [room_1]; omega, by simp only [room_1]; omega⟩) hS (fun q _ h => hFc q h) hFc (fun r_878 u_878 t_ H1 locs ht_ hvm_ hw_878 hB_ hz_ hk_ hS => ?_)
  obtain ⟨hP, hD⟩ := fr_joinR (w1 := mW cI m0 a th σ) (w1' := mW cI m0 a u_878.1 u_878.2) (w2 := (xoW cI cR cS cL x0 b o0 u_)) hP hD hAH hk_ (by rw [← ht_]; exact hB_) (va_D_fst (vD_app2 (w1 := (xoW cI cR cS cL x0 b o0 u_)) hD).self rfl)
  obtain ⟨th3, σ3⟩ := u_878
  rcases hw1 with ⟨g1, g2, g3, rfl, g5⟩ | ⟨g1, g3, rfl⟩ | ⟨g1, g2, g3, rfl⟩
  · rcases hw_878 with ⟨f1, f2, f3, f4⟩ | ⟨f1, f3⟩ | ⟨f1, f2, f3⟩
    · obtain ⟨rfl, hs3⟩ := Prod.mk.inj f3
      have hs : u_.1 = σ3 := g3.trans hs3.symm
      have hI3 : sI σ3 := by rw [← hs]; exact hok.1
      have hP : va_P dD vwCl ((xoW cI cR cS cL x0 b o0 u_) ++ mW cI m0 a 0 σ3) H1 := hP
      have hD : va_D (fun q => s.heap.size ≤ q) ((xoW cI cR cS cL x0 b o0 u_) ++ mW cI m0 a 0 σ3) := hD
      have hout : u_.2.2.2.2.2 0 = (r_878).toInt64 := by rw [g5, f4]
      refine lv_istore (lv' := [(6, .int r_878), (5, .int (nI 0)), (0, .ref bq), (1, .ref x0), (2, .ref m0), (3, .ref o0), (4, .int (nI (5 * j)))]) hx hb dL_law_881 hl (by decide) rfl (fun ls hl => ?_)
      refine lv_aload_n hx hb dL_law_883 rfl (lv_at hl 4 rfl) ?_
      have hAH : ∀ q : Nat, H1.size ≤ q → s.heap.size ≤ q := fun q h => Nat.le_trans hS.1 h
      have hFc := fr_freeR (w1 := mW cI m0 a 0 σ3) (w2 := (xoW cI cR cS cL x0 b o0 u_)) hD hAH
      refine va_calli (va_runV (As := []) (rest := []) ⟨hx, hb, hml, hown, hts⟩ (c_X3_thrown l dD cI cR cS s.heap.size H1.size hS.1 m0 a 0 σ3 hI3 ) (cwV 0 hts gL_law_X3_thrown rfl rfl rfl (by decide +kernel) ⟨Nat.le_of_ble_eq_true rfl, Nat.le_of_ble_eq_true rfl⟩) (ePreV hE hS (vP_app2 (w1 := (xoW cI cR cS cL x0 b o0 u_)) hP) (k := 0) rfl rfl ⟨rfl, vP_app2 (w1 := (xoW cI cR cS cL x0 b o0 u_)) hP, vD_app2 (w1 := (xoW cI cR cS cL x0 b o0 u_)) hD⟩) rfl rfl hl.1 rfl (lv_room (Nat.le_of_ble_eq_true rfl)) dL_law_884 ⟨by simp only [room_1]; omega, by simp only [room_1]; omega⟩) hS (fun q _ h => hFc q h) hFc (fun r_884 u_884 t_ H1 locs ht_ hvm_ hw_884 hB_ hz_ hk_ hS => ?_)
      obtain ⟨hP, hD⟩ := fr_joinR (w1 := mW cI m0 a 0 σ3) (w1' := mW cI m0 a u_884.1 u_884.2) (w2 := (xoW cI cR cS cL x0 b o0 u_)) hP hD hAH hk_ (by rw [← ht_]; exact hB_) (va_D_fst (vD_app2 (w1 := (xoW cI cR cS cL x0 b o0 u_)) hD).self rfl)
      obtain ⟨f5, rfl⟩ := hw_884
      have hP : va_P dD vwCl ((xoW cI cR cS cL x0 b o0 u_) ++ mW cI m0 a 0 σ3) H1 := by rw [f5] at hP; exact hP
      have hD : va_D (fun q => s.heap.size ≤ q) ((xoW cI cR cS cL x0 b o0 u_) ++ mW cI m0 a 0 σ3) := by rw [f5] at hD; exact hD
      refine lv_iload hx hb dL_law_887 (lv_at hl 1 rfl) ?_
      refine nv_eq (tgt := 894) hx hb dL_law_889 (by decide) (by decide) (by decide) (fun c_889 => ?_) (fun c_889 => absurd c_889 (by decide))
      refine lv_iload hx hb dL_law_894 (lv_at hl 1 rfl) ?_
      refine nv_if_ne (tgt := 911) hx hb dL_law_896 (by decide) (by decide) (fun c_896 => absurd c_896 (by decide)) (fun c_896 => ?_)
      refine lv_aload_n hx hb dL_law_899 rfl (lv_at hl 5 rfl) ?_
      refine lv_iconst (v := nI 0) hx hb dL_law_900 (by decide +kernel) ?_
      refine va_lald hx hb hKL hP 0 0 rfl rfl (vp_in_nI (by decide) (by decide)) dL_law_901 ?_
      rw [show (nI 0).toNatClampNeg = 0 from by decide, hout]
      refine lv_iload hx hb dL_law_902 (lv_at hl 0 rfl) ?_
      refine lv_i2l (v := (r_878).toInt64) hx hb dL_law_904 rfl ?_
      refine W.lcmp hx hb dL_law_905 ?_
      rw [lg_self]
      refine lv_if_eq (tgt := 911) hx hb dL_law_906 (by decide) (fun c_906 => ?_) (fun c_906 => absurd rfl c_906)
      refine lv_goto (tgt := 1277) hx hb dL_law_911 (by decide) ?_
      refine W.widen (k := 108 + 8 * j) (n := 3064 + 64 * j) (by omega) (by omega) ?_
      exact hn u_ 0 H1 locs hok (by rw [hs]; exact hP) (by rw [hs]; exact hD) hS ls (lv_sub hl [2, 3, 4, 5, 6] rfl)
    · exact absurd g1 f1
    · exact absurd g2 f2
  · rcases hw_878 with ⟨f1, f2, f3, f4⟩ | ⟨f1, f3⟩ | ⟨f1, f2, f3⟩
    · exact absurd f1 g1
    · obtain ⟨rfl, hs3⟩ := Prod.mk.inj f3
      have hs : u_.1 = σ3 := g3.trans hs3.symm
      have hI3 : sI σ3 := by rw [← hs]; exact hok.1
      have hP : va_P dD vwCl ((xoW cI cR cS cL x0 b o0 u_) ++ mW cI m0 a 1 σ3) H1 := hP
      have hD : va_D (fun q => s.heap.size ≤ q) ((xoW cI cR cS cL x0 b o0 u_) ++ mW cI m0 a 1 σ3) := hD
      refine lv_istore (lv' := [(6, .int r_878), (5, .int (nI 1)), (0, .ref bq), (1, .ref x0), (2, .ref m0), (3, .ref o0), (4, .int (nI (5 * j)))]) hx hb dL_law_881 hl (by decide) rfl (fun ls hl => ?_)
      refine lv_aload_n hx hb dL_law_883 rfl (lv_at hl 4 rfl) ?_
      have hAH : ∀ q : Nat, H1.size ≤ q → s.heap.size ≤ q := fun q h => Nat.le_trans hS.1 h
      have hFc := fr_freeR (w1 := mW cI m0 a 1 σ3) (w2 := (xoW cI cR cS cL x0 b o0 u_)) hD hAH
      refine va_calli (va_runV (As := []) (rest := []) ⟨hx, hb, hml, hown, hts⟩ (c_X3_thrown l dD cI cR cS s.heap.size H1.size hS.1 m0 a 1 σ3 hI3 ) (cwV 0 hts gL_law_X3_thrown rfl rfl rfl (by decide +kernel) ⟨Nat.le_of_ble_eq_true rfl, Nat.le_of_ble_eq_true rfl⟩) (ePreV hE hS (vP_app2 (w1 := (xoW cI cR cS cL x0 b o0 u_)) hP) (k := 0) rfl rfl ⟨rfl, vP_app2 (w1 := (xoW cI cR cS cL x0 b o0 u_)) hP, vD_app2 (w1 := (xoW cI cR cS cL x0 b o0 u_)) hD⟩) rfl rfl hl.1 rfl (lv_room (Nat.le_of_ble_eq_true rfl)) dL_law_884 ⟨by simp only [room_1]; omega, by simp only [room_1]; omega⟩) hS (fun q _ h => hFc q h) hFc (fun r_884 u_884 t_ H1 locs ht_ hvm_ hw_884 hB_ hz_ hk_ hS => ?_)
      obtain ⟨hP, hD⟩ := fr_joinR (w1 := mW cI m0 a 1 σ3) (w1' := mW cI m0 a u_884.1 u_884.2) (w2 := (xoW cI cR cS cL x0 b o0 u_)) hP hD hAH hk_ (by rw [← ht_]; exact hB_) (va_D_fst (vD_app2 (w1 := (xoW cI cR cS cL x0 b o0 u_)) hD).self rfl)
      obtain ⟨f5, rfl⟩ := hw_884
      have hP : va_P dD vwCl ((xoW cI cR cS cL x0 b o0 u_) ++ mW cI m0 a 1 σ3) H1 := by rw [f5] at hP; exact hP
      have hD : va_D (fun q => s.heap.size ≤ q) ((xoW cI cR cS cL x0 b o0 u_) ++ mW cI m0 a 1 σ3) := by rw [f5] at hD; exact hD
      refine lv_iload hx hb dL_law_887 (lv_at hl 1 rfl) ?_
      refine nv_eq (tgt := 894) hx hb dL_law_889 (by decide) (by decide) (by decide) (fun c_889 => ?_) (fun c_889 => absurd c_889 (by decide))
      refine lv_iload hx hb dL_law_894 (lv_at hl 1 rfl) ?_
      refine nv_if_ne (tgt := 911) hx hb dL_law_896 (by decide) (by decide) (fun c_896 => ?_) (fun c_896 => absurd c_896 (by decide))
      refine lv_goto (tgt := 1277) hx hb dL_law_911 (by decide) ?_
      refine W.widen (k := 108 + 8 * j) (n := 3064 + 64 * j) (by omega) (by omega) ?_
      exact hn u_ 1 H1 locs hok (by rw [hs]; exact hP) (by rw [hs]; exact hD) hS ls (lv_sub hl [2, 3, 4, 5, 6] rfl)
    · exact absurd f1 g1
  · rcases hw_878 with ⟨f1, f2, f3, f4⟩ | ⟨f1, f3⟩ | ⟨f1, f2, f3⟩
    · exact absurd f2 g2
    · exact absurd g1 f1
    · obtain ⟨rfl, hs3⟩ := Prod.mk.inj f3
      have hs : u_.1 = σ3 := g3.trans hs3.symm
      have hI3 : sI σ3 := by rw [← hs]; exact hok.1
      have hP : va_P dD vwCl ((xoW cI cR cS cL x0 b o0 u_) ++ mW cI m0 a 2 σ3) H1 := hP
      have hD : va_D (fun q => s.heap.size ≤ q) ((xoW cI cR cS cL x0 b o0 u_) ++ mW cI m0 a 2 σ3) := hD
      refine lv_istore (lv' := [(6, .int r_878), (5, .int (nI 2)), (0, .ref bq), (1, .ref x0), (2, .ref m0), (3, .ref o0), (4, .int (nI (5 * j)))]) hx hb dL_law_881 hl (by decide) rfl (fun ls hl => ?_)
      refine lv_aload_n hx hb dL_law_883 rfl (lv_at hl 4 rfl) ?_
      have hAH : ∀ q : Nat, H1.size ≤ q → s.heap.size ≤ q := fun q h => Nat.le_trans hS.1 h
      have hFc := fr_freeR (w1 := mW cI m0 a 2 σ3) (w2 := (xoW cI cR cS cL x0 b o0 u_)) hD hAH
      refine va_calli (va_runV (As := []) (rest := []) ⟨hx, hb, hml, hown, hts⟩ (c_X3_thrown l dD cI cR cS s.heap.size H1.size hS.1 m0 a 2 σ3 hI3 ) (cwV 0 hts gL_law_X3_thrown rfl rfl rfl (by decide +kernel) ⟨Nat.le_of_ble_eq_true rfl, Nat.le_of_ble_eq_true rfl⟩) (ePreV hE hS (vP_app2 (w1 := (xoW cI cR cS cL x0 b o0 u_)) hP) (k := 0) rfl rfl ⟨rfl, vP_app2 (w1 := (xoW cI cR cS cL x0 b o0 u_)) hP, vD_app2 (w1 := (xoW cI cR cS cL x0 b o0 u_)) hD⟩) rfl rfl hl.1 rfl (lv_room (Nat.le_of_ble_eq_true rfl)) dL_law_884 ⟨by simp only [room_1]; omega, by simp only [room_1]; omega⟩) hS (fun q _ h => hFc q h) hFc (fun r_884 u_884 t_ H1 locs ht_ hvm_ hw_884 hB_ hz_ hk_ hS => ?_)
      obtain ⟨hP, hD⟩ := fr_joinR (w1 := mW cI m0 a 2 σ3) (w1' := mW cI m0 a u_884.1 u_884.2) (w2 := (xoW cI cR cS cL x0 b o0 u_)) hP hD hAH hk_ (by rw [← ht_]; exact hB_) (va_D_fst (vD_app2 (w1 := (xoW cI cR cS cL x0 b o0 u_)) hD).self rfl)
      obtain ⟨f5, rfl⟩ := hw_884
      have hP : va_P dD vwCl ((xoW cI cR cS cL x0 b o0 u_) ++ mW cI m0 a 2 σ3) H1 := by rw [f5] at hP; exact hP
      have hD : va_D (fun q => s.heap.size ≤ q) ((xoW cI cR cS cL x0 b o0 u_) ++ mW cI m0 a 2 σ3) := by rw [f5] at hD; exact hD
      refine lv_iload hx hb dL_law_887 (lv_at hl 1 rfl) ?_
      refine nv_eq (tgt := 894) hx hb dL_law_889 (by decide) (by decide) (by decide) (fun c_889 => ?_) (fun c_889 => absurd c_889 (by decide))
      refine lv_iload hx hb dL_law_894 (lv_at hl 1 rfl) ?_
      refine nv_if_ne (tgt := 911) hx hb dL_law_896 (by decide) (by decide) (fun c_896 => ?_) (fun c_896 => absurd c_896 (by decide))
      refine lv_goto (tgt := 1277) hx hb dL_law_911 (by decide) ?_
      refine W.widen (k := 108 + 8 * j) (n := 3064 + 64 * j) (by omega) (by omega) ?_
      exact hn u_ 2 H1 locs hok (by rw [hs]; exact hP) (by rw [hs]; exact hD) hS ls (lv_sub hl [2, 3, 4, 5, 6] rfl)

set_option maxHeartbeats 4000000 in
set_option maxRecDepth 100000 in
theorem law_take {p : Program} {l : Launch} {e_ : Env} {s : State} {m : MethodId} {below : List Frame} {meth : Method} {c : Code} {bq L : Nat} {xs : Nat → Int32} (hL : L ≤ 2560) (C0 : lw_At p s m meth c bq L xs) (hfl : l.stackTraces = false) {dD : va_G} {cI cR cS cL : ClassId} (hE : eE dD cI cR cS s.heap.size s s.heap) (hKL : va_K dD vwCl [(cL, .long)] s) {x0 m0 o0 : Nat} {b a : Nat → Nat} {j : Nat} (hj : 5 * j + 5 ≤ L) (hn : lS p l e_ s m below meth c bq dD cI cR cS cL x0 m0 o0 b a j (108 + 8 * j) (3064 + 64 * j) 1277) : lS p l e_ s m below meth c bq dD cI cR cS cL x0 m0 o0 b a j (100 + 8 * j) (3000 + 64 * j) 914 := by
  obtain ⟨hx, hb, -, hml, hown, hts, hXs, hbl, hlocks, -⟩ := id C0
  have hown : s.vm.findClass RL = some m.cls := hown
  have hts : ∀ w ∈ wsL_law, w.before #[Value.ref bq] s = true := fun w h => hts w (wsL_law_in w h)
  have hbA : ¬ (fun q : Nat => s.heap.size ≤ q) bq := Nat.not_le.mpr hbl
  have hK := hE.1.1
  intro u th H locs hu hP hD hS ls hl
  obtain ⟨σ, ra, sb, hd, ol, out⟩ := u
  obtain ⟨hI, hX, hJ⟩ := hu
  have hI : sI σ := hI
  have hX : xI σ hd ol := hX
  have hJ : xJ σ hd ol := hJ
  have hP : va_P dD vwCl ((xoW cI cR cS cL x0 b o0 (σ, ra, sb, hd, ol, out)) ++ mW cI m0 a th σ) H := hP
  have hD : va_D (fun q => s.heap.size ≤ q) ((xoW cI cR cS cL x0 b o0 (σ, ra, sb, hd, ol, out)) ++ mW cI m0 a th σ) := hD
  refine lv_aload_n hx hb dL_law_914 rfl (lv_at hl 1 rfl) ?_
  refine lv_aload_n hx hb dL_law_915 rfl (lv_at hl 0 rfl) ?_
  refine lv_iload hx hb dL_law_916 (lv_at hl 4 rfl) ?_
  refine lv_iconst (v := nI 1) hx hb dL_law_918 (by decide +kernel) ?_
  refine nv_iadd hx hb dL_law_919 ?_
  refine nv_sld hx hb hXs hbl hbA hS (by omega) (by omega) dL_law_920 ?_
  refine lv_aload_n hx hb dL_law_921 rfl (lv_at hl 3 rfl) ?_
  have hAH : ∀ q : Nat, H.size ≤ q → s.heap.size ≤ q := fun q h => Nat.le_trans hS.1 h
  have hFc := fr_free (w1 := (xoW cI cR cS cL x0 b o0 (σ, ra, sb, hd, ol, out))) (w2 := mW cI m0 a th σ) hD hAH
  refine va_calli (vx_runSW (As := [.ref x0, .int (xs ((5 * j) + 1)), .ref o0]) (rest := []) ⟨hx, hb, hml, hown, hts⟩ (c_L_take l dD cI cR cS s.heap.size cL hfl H.size hS.1 x0 b o0 ra sb hd ol σ out hI hX hJ (xs ((5 * j) + 1))) (vx_cwSW 3 hts gL_law_L_take rfl rfl rfl (by decide +kernel) ⟨Nat.le_of_ble_eq_true rfl, Nat.le_of_ble_eq_true rfl⟩) (lPreS hE hKL hS ⟨rfl, vP_app1 hP, vD_app1 hD⟩) rfl rfl hl.1 rfl (lv_room (Nat.le_of_ble_eq_true rfl)) dL_law_922 ⟨by simp only [room_1]; omega, by simp only [room_1]; omega⟩) hS (fun q _ h => hFc q h) hFc (fun r_ u_ t_ H1 locs ht_ hvm_ hw1 hB_ hz_ hk_ hS => ?_)
  obtain ⟨hP, hD⟩ := fr_join (w1 := (xoW cI cR cS cL x0 b o0 (σ, ra, sb, hd, ol, out))) (w1' := (xoW cI cR cS cL x0 b o0 u_)) (w2 := mW cI m0 a th σ) hP hD hAH hk_ (by rw [← ht_]; exact hB_.1) hB_.2
  obtain ⟨hw1, hok⟩ := hw1
  refine lv_istore (lv' := [(5, .int r_), (0, .ref bq), (1, .ref x0), (2, .ref m0), (3, .ref o0), (4, .int (nI (5 * j)))]) hx hb dL_law_925 hl (by decide) rfl (fun ls hl => ?_)
  refine lv_aload_n hx hb dL_law_927 rfl (lv_at hl 3 rfl) ?_
  refine lv_aload_n hx hb dL_law_928 rfl (lv_at hl 1 rfl) ?_
  refine lv_iload hx hb dL_law_929 (lv_at hl 5 rfl) ?_
  refine lv_iconst (v := nI 1) hx hb dL_law_931 (by decide +kernel) ?_
  refine nv_iadd hx hb dL_law_932 ?_
  refine nv_sld hx hb hXs hbl hbA hS (by omega) (by omega) dL_law_933 ?_
  have hAH : ∀ q : Nat, H1.size ≤ q → s.heap.size ≤ q := fun q h => Nat.le_trans hS.1 h
  have hFc := fr_freeR (w1 := mW cI m0 a th σ) (w2 := (xoW cI cR cS cL x0 b o0 u_)) hD hAH
  refine va_calli (va_runV (As := [.int (xs ((5 * j) + 1))]) (rest := []) ⟨hx, hb, hml, hown, hts⟩ (c_X3_take l dD cI cR cS s.heap.size H1.size hS.1 m0 a th σ hI (xs ((5 * j) + 1))) (cwV 1 hts gL_law_X3_take rfl rfl rfl (by decide +kernel) ⟨Nat.le_of_ble_eq_true rfl, Nat.le_of_ble_eq_true rfl⟩) (ePreV hE hS (vP_app2 (w1 := (xoW cI cR cS cL x0 b o0 u_)) hP) (k := 0) rfl rfl ⟨rfl, vP_app2 (w1 := (xoW cI cR cS cL x0 b o0 u_)) hP, vD_app2 (w1 := (xoW cI cR cS cL x0 b o0 u_)) hD⟩) rfl rfl hl.1 rfl (lv_room (Nat.le_of_ble_eq_true rfl)) dL_law_934 ⟨by simp only [room_1]; omega, by simp only [room_1]; omega⟩) hS (fun q _ h => hFc q h) hFc (fun r_934 u_934 t_ H1 locs ht_ hvm_ hw_934 hB_ hz_ hk_ hS => ?_)
  obtain ⟨hP, hD⟩ := fr_joinR (w1 := mW cI m0 a th σ) (w1' := mW cI m0 a u_934.1 u_934.2) (w2 := (xoW cI cR cS cL x0 b o0 u_)) hP hD hAH hk_ (by rw [← ht_]; exact hB_) (va_D_fst (vD_app2 (w1 := (xoW cI cR cS cL x0 b o0 u_)) hD).self rfl)
  obtain ⟨th3, σ3⟩ := u_934
  rcases hw1 with ⟨g1, g2, g3, rfl, g5⟩ | ⟨g1, g3, rfl⟩ | ⟨g1, g2, g3, rfl⟩
  · rcases hw_934 with ⟨f1, f2, f3, f4⟩ | ⟨f1, f3⟩ | ⟨f1, f2, f3⟩
    · obtain ⟨rfl, hs3⟩ := Prod.mk.inj f3
      have hs : u_.1 = σ3 := g3.trans hs3.symm
      have hI3 : sI σ3 := by rw [← hs]; exact hok.1
      have hP : va_P dD vwCl ((xoW cI cR cS cL x0 b o0 u_) ++ mW cI m0 a 0 σ3) H1 := hP
      have hD : va_D (fun q => s.heap.size ≤ q) ((xoW cI cR cS cL x0 b o0 u_) ++ mW cI m0 a 0 σ3) := hD
      have hout : u_.2.2.2.2.2 0 = (r_934).toInt64 := by rw [g5, f4]
      refine lv_istore (lv' := [(6, .int r_934), (5, .int (nI 0)), (0, .ref bq), (1, .ref x0), (2, .ref m0), (3, .ref o0), (4, .int (nI (5 * j)))]) hx hb dL_law_937 hl (by decide) rfl (fun ls hl => ?_)
      refine lv_aload_n hx hb dL_law_939 rfl (lv_at hl 4 rfl) ?_
      have hAH : ∀ q : Nat, H1.size ≤ q → s.heap.size ≤ q := fun q h => Nat.le_trans hS.1 h
      have hFc := fr_freeR (w1 := mW cI m0 a 0 σ3) (w2 := (xoW cI cR cS cL x0 b o0 u_)) hD hAH
      refine va_calli (va_runV (As := []) (rest := []) ⟨hx, hb, hml, hown, hts⟩ (c_X3_thrown l dD cI cR cS s.heap.size H1.size hS.1 m0 a 0 σ3 hI3 ) (cwV 0 hts gL_law_X3_thrown rfl rfl rfl (by decide +kernel) ⟨Nat.le_of_ble_eq_true rfl, Nat.le_of_ble_eq_true rfl⟩) (ePreV hE hS (vP_app2 (w1 := (xoW cI cR cS cL x0 b o0 u_)) hP) (k := 0) rfl rfl ⟨rfl, vP_app2 (w1 := (xoW cI cR cS cL x0 b o0 u_)) hP, vD_app2 (w1 := (xoW cI cR cS cL x0 b o0 u_)) hD⟩) rfl rfl hl.1 rfl (lv_room (Nat.le_of_ble_eq_true rfl)) dL_law_940 ⟨by simp only [room_1]; omega, by simp only [room_1]; omega⟩) hS (fun q _ h => hFc q h) hFc (fun r_940 u_940 t_ H1 locs ht_ hvm_ hw_940 hB_ hz_ hk_ hS => ?_)
      obtain ⟨hP, hD⟩ := fr_joinR (w1 := mW cI m0 a 0 σ3) (w1' := mW cI m0 a u_940.1 u_940.2) (w2 := (xoW cI cR cS cL x0 b o0 u_)) hP hD hAH hk_ (by rw [← ht_]; exact hB_) (va_D_fst (vD_app2 (w1 := (xoW cI cR cS cL x0 b o0 u_)) hD).self rfl)
      obtain ⟨f5, rfl⟩ := hw_940
      have hP : va_P dD vwCl ((xoW cI cR cS cL x0 b o0 u_) ++ mW cI m0 a 0 σ3) H1 := by rw [f5] at hP; exact hP
      have hD : va_D (fun q => s.heap.size ≤ q) ((xoW cI cR cS cL x0 b o0 u_) ++ mW cI m0 a 0 σ3) := by rw [f5] at hD; exact hD
      refine lv_iload hx hb dL_law_943 (lv_at hl 1 rfl) ?_
      refine nv_eq (tgt := 950) hx hb dL_law_945 (by decide) (by decide) (by decide) (fun c_945 => ?_) (fun c_945 => absurd c_945 (by decide))
      refine lv_iload hx hb dL_law_950 (lv_at hl 1 rfl) ?_
      refine nv_if_ne (tgt := 967) hx hb dL_law_952 (by decide) (by decide) (fun c_952 => absurd c_952 (by decide)) (fun c_952 => ?_)
      refine lv_aload_n hx hb dL_law_955 rfl (lv_at hl 5 rfl) ?_
      refine lv_iconst (v := nI 0) hx hb dL_law_956 (by decide +kernel) ?_
      refine va_lald hx hb hKL hP 0 0 rfl rfl (vp_in_nI (by decide) (by decide)) dL_law_957 ?_
      rw [show (nI 0).toNatClampNeg = 0 from by decide, hout]
      refine lv_iload hx hb dL_law_958 (lv_at hl 0 rfl) ?_
      refine lv_i2l (v := (r_934).toInt64) hx hb dL_law_960 rfl ?_
      refine W.lcmp hx hb dL_law_961 ?_
      rw [lg_self]
      refine lv_if_eq (tgt := 967) hx hb dL_law_962 (by decide) (fun c_962 => ?_) (fun c_962 => absurd rfl c_962)
      refine lv_goto (tgt := 1277) hx hb dL_law_967 (by decide) ?_
      refine W.widen (k := 108 + 8 * j) (n := 3064 + 64 * j) (by omega) (by omega) ?_
      exact hn u_ 0 H1 locs hok (by rw [hs]; exact hP) (by rw [hs]; exact hD) hS ls (lv_sub hl [2, 3, 4, 5, 6] rfl)
    · exact absurd g1 f1
    · exact absurd g2 f2
  · rcases hw_934 with ⟨f1, f2, f3, f4⟩ | ⟨f1, f3⟩ | ⟨f1, f2, f3⟩
    · exact absurd f1 g1
    · obtain ⟨rfl, hs3⟩ := Prod.mk.inj f3
      have hs : u_.1 = σ3 := g3.trans hs3.symm
      have hI3 : sI σ3 := by rw [← hs]; exact hok.1
      have hP : va_P dD vwCl ((xoW cI cR cS cL x0 b o0 u_) ++ mW cI m0 a 1 σ3) H1 := hP
      have hD : va_D (fun q => s.heap.size ≤ q) ((xoW cI cR cS cL x0 b o0 u_) ++ mW cI m0 a 1 σ3) := hD
      refine lv_istore (lv' := [(6, .int r_934), (5, .int (nI 1)), (0, .ref bq), (1, .ref x0), (2, .ref m0), (3, .ref o0), (4, .int (nI (5 * j)))]) hx hb dL_law_937 hl (by decide) rfl (fun ls hl => ?_)
      refine lv_aload_n hx hb dL_law_939 rfl (lv_at hl 4 rfl) ?_
      have hAH : ∀ q : Nat, H1.size ≤ q → s.heap.size ≤ q := fun q h => Nat.le_trans hS.1 h
      have hFc := fr_freeR (w1 := mW cI m0 a 1 σ3) (w2 := (xoW cI cR cS cL x0 b o0 u_)) hD hAH
      refine va_calli (va_runV (As := []) (rest := []) ⟨hx, hb, hml, hown, hts⟩ (c_X3_thrown l dD cI cR cS s.heap.size H1.size hS.1 m0 a 1 σ3 hI3 ) (cwV 0 hts gL_law_X3_thrown rfl rfl rfl (by decide +kernel) ⟨Nat.le_of_ble_eq_true rfl, Nat.le_of_ble_eq_true rfl⟩) (ePreV hE hS (vP_app2 (w1 := (xoW cI cR cS cL x0 b o0 u_)) hP) (k := 0) rfl rfl ⟨rfl, vP_app2 (w1 := (xoW cI cR cS cL x0 b o0 u_)) hP, vD_app2 (w1 := (xoW cI cR cS cL x0 b o0 u_)) hD⟩) rfl rfl hl.1 rfl (lv_room (Nat.le_of_ble_eq_true rfl)) dL_law_940 ⟨by simp only [room_1]; omega, by simp only [room_1]; omega⟩) hS (fun q _ h => hFc q h) hFc (fun r_940 u_940 t_ H1 locs ht_ hvm_ hw_940 hB_ hz_ hk_ hS => ?_)
      obtain ⟨hP, hD⟩ := fr_joinR (w1 := mW cI m0 a 1 σ3) (w1' := mW cI m0 a u_940.1 u_940.2) (w2 := (xoW cI cR cS cL x0 b o0 u_)) hP hD hAH hk_ (by rw [← ht_]; exact hB_) (va_D_fst (vD_app2 (w1 := (xoW cI cR cS cL x0 b o0 u_)) hD).self rfl)
      obtain ⟨f5, rfl⟩ := hw_940
      have hP : va_P dD vwCl ((xoW cI cR cS cL x0 b o0 u_) ++ mW cI m0 a 1 σ3) H1 := by rw [f5] at hP; exact hP
      have hD : va_D (fun q => s.heap.size ≤ q) ((xoW cI cR cS cL x0 b o0 u_) ++ mW cI m0 a 1 σ3) := by rw [f5] at hD; exact hD
      refine lv_iload hx hb dL_law_943 (lv_at hl 1 rfl) ?_
      refine nv_eq (tgt := 950) hx hb dL_law_945 (by decide) (by decide) (by decide) (fun c_945 => ?_) (fun c_945 => absurd c_945 (by decide))
      refine lv_iload hx hb dL_law_950 (lv_at hl 1 rfl) ?_
      refine nv_if_ne (tgt := 967) hx hb dL_law_952 (by decide) (by decide) (fun c_952 => ?_) (fun c_952 => absurd c_952 (by decide))
      refine lv_goto (tgt := 1277) hx hb dL_law_967 (by decide) ?_
      refine W.widen (k := 108 + 8 * j) (n := 3064 + 64 * j) (by omega) (by omega) ?_
      exact hn u_ 1 H1 locs hok (by rw [hs]; exact hP) (by rw [hs]; exact hD) hS ls (lv_sub hl [2, 3, 4, 5, 6] rfl)
    · exact absurd f1 g1
  · rcases hw_934 with ⟨f1, f2, f3, f4⟩ | ⟨f1, f3⟩ | ⟨f1, f2, f3⟩
    · exact absurd f2 g2
    · exact absurd g1 f1
    · obtain ⟨rfl, hs3⟩ := Prod.mk.inj f3
      have hs : u_.1 = σ3 := g3.trans hs3.symm
      have hI3 : sI σ3 := by rw [← hs]; exact hok.1
      have hP : va_P dD vwCl ((xoW cI cR cS cL x0 b o0 u_) ++ mW cI m0 a 2 σ3) H1 := hP
      have hD : va_D (fun q => s.heap.size ≤ q) ((xoW cI cR cS cL x0 b o0 u_) ++ mW cI m0 a 2 σ3) := hD
      refine lv_istore (lv' := [(6, .int r_934), (5, .int (nI 2)), (0, .ref bq), (1, .ref x0), (2, .ref m0), (3, .ref o0), (4, .int (nI (5 * j)))]) hx hb dL_law_937 hl (by decide) rfl (fun ls hl => ?_)
      refine lv_aload_n hx hb dL_law_939 rfl (lv_at hl 4 rfl) ?_
      have hAH : ∀ q : Nat, H1.size ≤ q → s.heap.size ≤ q := fun q h => Nat.le_trans hS.1 h
      have hFc := fr_freeR (w1 := mW cI m0 a 2 σ3) (w2 := (xoW cI cR cS cL x0 b o0 u_)) hD hAH
      refine va_calli (va_runV (As := []) (rest := []) ⟨hx, hb, hml, hown, hts⟩ (c_X3_thrown l dD cI cR cS s.heap.size H1.size hS.1 m0 a 2 σ3 hI3 ) (cwV 0 hts gL_law_X3_thrown rfl rfl rfl (by decide +kernel) ⟨Nat.le_of_ble_eq_true rfl, Nat.le_of_ble_eq_true rfl⟩) (ePreV hE hS (vP_app2 (w1 := (xoW cI cR cS cL x0 b o0 u_)) hP) (k := 0) rfl rfl ⟨rfl, vP_app2 (w1 := (xoW cI cR cS cL x0 b o0 u_)) hP, vD_app2 (w1 := (xoW cI cR cS cL x0 b o0 u_)) hD⟩) rfl rfl hl.1 rfl (lv_room (Nat.le_of_ble_eq_true rfl)) dL_law_940 ⟨by simp only [room_1]; omega, by simp only [room_1]; omega⟩) hS (fun q _ h => hFc q h) hFc (fun r_940 u_940 t_ H1 locs ht_ hvm_ hw_940 hB_ hz_ hk_ hS => ?_)
      obtain ⟨hP, hD⟩ := fr_joinR (w1 := mW cI m0 a 2 σ3) (w1' := mW cI m0 a u_940.1 u_940.2) (w2 := (xoW cI cR cS cL x0 b o0 u_)) hP hD hAH hk_ (by rw [← ht_]; exact hB_) (va_D_fst (vD_app2 (w1 := (xoW cI cR cS cL x0 b o0 u_)) hD).self rfl)
      obtain ⟨f5, rfl⟩ := hw_940
      have hP : va_P dD vwCl ((xoW cI cR cS cL x0 b o0 u_) ++ mW cI m0 a 2 σ3) H1 := by rw [f5] at hP; exact hP
      have hD : va_D (fun q => s.heap.size ≤ q) ((xoW cI cR cS cL x0 b o0 u_) ++ mW cI m0 a 2 σ3) := by rw [f5] at hD; exact hD
      refine lv_iload hx hb dL_law_943 (lv_at hl 1 rfl) ?_
      refine nv_eq (tgt := 950) hx hb dL_law_945 (by decide) (by decide) (by decide) (fun c_945 => ?_) (fun c_945 => absurd c_945 (by decide))
      refine lv_iload hx hb dL_law_950 (lv_at hl 1 rfl) ?_
      refine nv_if_ne (tgt := 967) hx hb dL_law_952 (by decide) (by decide) (fun c_952 => ?_) (fun c_952 => absurd c_952 (by decide))
      refine lv_goto (tgt := 1277) hx hb dL_law_967 (by decide) ?_
      refine W.widen (k := 108 + 8 * j) (n := 3064 + 64 * j) (by omega) (by omega) ?_
      exact hn u_ 2 H1 locs hok (by rw [hs]; exact hP) (by rw [hs]; exact hD) hS ls (lv_sub hl [2, 3, 4, 5, 6] rfl)

set_option maxHeartbeats 4000000 in
set_option maxRecDepth 100000 in
theorem law_lag {p : Program} {l : Launch} {e_ : Env} {s : State} {m : MethodId} {below : List Frame} {meth : Method} {c : Code} {bq L : Nat} {xs : Nat → Int32} (hL : L ≤ 2560) (C0 : lw_At p s m meth c bq L xs) (hfl : l.stackTraces = false) {dD : va_G} {cI cR cS cL : ClassId} (hE : eE dD cI cR cS s.heap.size s s.heap) (hKL : va_K dD vwCl [(cL, .long)] s) {x0 m0 o0 : Nat} {b a : Nat → Nat} {j : Nat} (hj : 5 * j + 5 ≤ L) (hn : lS p l e_ s m below meth c bq dD cI cR cS cL x0 m0 o0 b a j (108 + 8 * j) (3064 + 64 * j) 1277) : lS p l e_ s m below meth c bq dD cI cR cS cL x0 m0 o0 b a j (100 + 8 * j) (3000 + 64 * j) 970 := by
  obtain ⟨hx, hb, -, hml, hown, hts, hXs, hbl, hlocks, -⟩ := id C0
  have hown : s.vm.findClass RL = some m.cls := hown
  have hts : ∀ w ∈ wsL_law, w.before #[Value.ref bq] s = true := fun w h => hts w (wsL_law_in w h)
  have hbA : ¬ (fun q : Nat => s.heap.size ≤ q) bq := Nat.not_le.mpr hbl
  have hK := hE.1.1
  intro u th H locs hu hP hD hS ls hl
  obtain ⟨σ, ra, sb, hd, ol, out⟩ := u
  obtain ⟨hI, hX, hJ⟩ := hu
  have hI : sI σ := hI
  have hX : xI σ hd ol := hX
  have hJ : xJ σ hd ol := hJ
  have hP : va_P dD vwCl ((xoW cI cR cS cL x0 b o0 (σ, ra, sb, hd, ol, out)) ++ mW cI m0 a th σ) H := hP
  have hD : va_D (fun q => s.heap.size ≤ q) ((xoW cI cR cS cL x0 b o0 (σ, ra, sb, hd, ol, out)) ++ mW cI m0 a th σ) := hD
  refine lv_aload_n hx hb dL_law_970 rfl (lv_at hl 1 rfl) ?_
  refine vp_callSi (va_Run.run (va_runV (As := []) (rest := []) ⟨hx, hb, hml, hown, hts⟩ (c_X2_lag l dD cI cR cS s.heap.size x0 b ra sb hd ol σ hI) (cwV 0 hts gL_law_X2_lag rfl rfl rfl (by decide +kernel) ⟨Nat.le_of_ble_eq_true rfl, Nat.le_of_ble_eq_true rfl⟩) (ePreV hE hS hP (k := 1) rfl rfl (vP_app2 (w1 := [(o0, .inl (cL, 1, .inr (.inl out)))]) (vP_app1 hP))) rfl rfl hl.1 rfl (lv_room (Nat.le_of_ble_eq_true rfl)) dL_law_971 ⟨by simp only [room_1]; omega, by simp only [room_1]; omega⟩)) (fun r_971 hr_971 => ?_)
  subst hr_971
  refine lv_aload_n hx hb dL_law_974 rfl (lv_at hl 2 rfl) ?_
  have hAH : ∀ q : Nat, H.size ≤ q → s.heap.size ≤ q := fun q h => Nat.le_trans hS.1 h
  have hFc := fr_freeR (w1 := mW cI m0 a th σ) (w2 := (xoW cI cR cS cL x0 b o0 (σ, ra, sb, hd, ol, out))) hD hAH
  refine va_calli (va_runV (As := []) (rest := [.int (nI (s_n σ - s_tk σ))]) ⟨hx, hb, hml, hown, hts⟩ (c_X3_lag l dD cI cR cS s.heap.size H.size hS.1 m0 a th σ hI ) (cwV 0 hts gL_law_X3_lag rfl rfl rfl (by decide +kernel) ⟨Nat.le_of_ble_eq_true rfl, Nat.le_of_ble_eq_true rfl⟩) (ePreV hE hS (vP_app2 (w1 := (xoW cI cR cS cL x0 b o0 (σ, ra, sb, hd, ol, out))) hP) (k := 0) rfl rfl ⟨rfl, vP_app2 (w1 := (xoW cI cR cS cL x0 b o0 (σ, ra, sb, hd, ol, out))) hP, vD_app2 (w1 := (xoW cI cR cS cL x0 b o0 (σ, ra, sb, hd, ol, out))) hD⟩) rfl rfl hl.1 rfl (lv_room (Nat.le_of_ble_eq_true rfl)) dL_law_975 ⟨by simp only [room_1]; omega, by simp only [room_1]; omega⟩) hS (fun q _ h => hFc q h) hFc (fun r_975 u_975 t_ H1 locs ht_ hvm_ hw_975 hB_ hz_ hk_ hS => ?_)
  obtain ⟨hP, hD⟩ := fr_joinR (w1 := mW cI m0 a th σ) (w1' := mW cI m0 a u_975.1 u_975.2) (w2 := (xoW cI cR cS cL x0 b o0 (σ, ra, sb, hd, ol, out))) hP hD hAH hk_ (by rw [← ht_]; exact hB_) (va_D_fst (vD_app2 (w1 := (xoW cI cR cS cL x0 b o0 (σ, ra, sb, hd, ol, out))) hD).self rfl)
  obtain ⟨f5, rfl⟩ := hw_975
  have hP : va_P dD vwCl ((xoW cI cR cS cL x0 b o0 (σ, ra, sb, hd, ol, out)) ++ mW cI m0 a 0 σ) H1 := by rw [f5] at hP; exact hP
  have hD : va_D (fun q => s.heap.size ≤ q) ((xoW cI cR cS cL x0 b o0 (σ, ra, sb, hd, ol, out)) ++ mW cI m0 a 0 σ) := by rw [f5] at hD; exact hD
  refine lv_icmp_eq (tgt := 1277) hx hb dL_law_978 (by decide) (fun c_978 => ?_) (fun c_978 => absurd rfl c_978)
  refine W.widen (k := 108 + 8 * j) (n := 3064 + 64 * j) (by omega) (by omega) ?_
  exact hn (σ, ra, sb, hd, ol, out) 0 H1 locs ⟨hI, hX, hJ⟩ hP hD hS ls (lv_sub hl [0, 1, 2, 3, 4] rfl)

set_option maxHeartbeats 4000000 in
set_option maxRecDepth 100000 in
theorem law_online {p : Program} {l : Launch} {e_ : Env} {s : State} {m : MethodId} {below : List Frame} {meth : Method} {c : Code} {bq L : Nat} {xs : Nat → Int32} (hL : L ≤ 2560) (C0 : lw_At p s m meth c bq L xs) (hfl : l.stackTraces = false) {dD : va_G} {cI cR cS cL : ClassId} (hE : eE dD cI cR cS s.heap.size s s.heap) (hKL : va_K dD vwCl [(cL, .long)] s) {x0 m0 o0 : Nat} {b a : Nat → Nat} {j : Nat} (hj : 5 * j + 5 ≤ L) (hn : lS p l e_ s m below meth c bq dD cI cR cS cL x0 m0 o0 b a j (108 + 8 * j) (3064 + 64 * j) 1277) : lS p l e_ s m below meth c bq dD cI cR cS cL x0 m0 o0 b a j (100 + 8 * j) (3000 + 64 * j) 983 := by
  obtain ⟨hx, hb, -, hml, hown, hts, hXs, hbl, hlocks, -⟩ := id C0
  have hown : s.vm.findClass RL = some m.cls := hown
  have hts : ∀ w ∈ wsL_law, w.before #[Value.ref bq] s = true := fun w h => hts w (wsL_law_in w h)
  have hbA : ¬ (fun q : Nat => s.heap.size ≤ q) bq := Nat.not_le.mpr hbl
  have hK := hE.1.1
  intro u th H locs hu hP hD hS ls hl
  obtain ⟨σ, ra, sb, hd, ol, out⟩ := u
  obtain ⟨hI, hX, hJ⟩ := hu
  have hI : sI σ := hI
  have hX : xI σ hd ol := hX
  have hJ : xJ σ hd ol := hJ
  have hP : va_P dD vwCl ((xoW cI cR cS cL x0 b o0 (σ, ra, sb, hd, ol, out)) ++ mW cI m0 a th σ) H := hP
  have hD : va_D (fun q => s.heap.size ≤ q) ((xoW cI cR cS cL x0 b o0 (σ, ra, sb, hd, ol, out)) ++ mW cI m0 a th σ) := hD
  refine lv_aload_n hx hb dL_law_983 rfl (lv_at hl 1 rfl) ?_
  refine lv_aload_n hx hb dL_law_984 rfl (lv_at hl 0 rfl) ?_
  refine lv_iload hx hb dL_law_985 (lv_at hl 4 rfl) ?_
  refine lv_iconst (v := nI 1) hx hb dL_law_987 (by decide +kernel) ?_
  refine nv_iadd hx hb dL_law_988 ?_
  refine nv_sld hx hb hXs hbl hbA hS (by omega) (by omega) dL_law_989 ?_
  refine lv_aload_n hx hb dL_law_990 rfl (lv_at hl 0 rfl) ?_
  refine lv_iload hx hb dL_law_991 (lv_at hl 4 rfl) ?_
  refine lv_iconst (v := nI 2) hx hb dL_law_993 (by decide +kernel) ?_
  refine nv_iadd hx hb dL_law_994 ?_
  refine nv_sld hx hb hXs hbl hbA hS (by omega) (by omega) dL_law_995 ?_
  refine lv_aload_n hx hb dL_law_996 rfl (lv_at hl 3 rfl) ?_
  have hAH : ∀ q : Nat, H.size ≤ q → s.heap.size ≤ q := fun q h => Nat.le_trans hS.1 h
  have hFc := fr_free (w1 := (xoW cI cR cS cL x0 b o0 (σ, ra, sb, hd, ol, out))) (w2 := mW cI m0 a th σ) hD hAH
  refine va_calli (vx_runSW (As := [.ref x0, .int (xs ((5 * j) + 1)), .int (xs ((5 * j) + 2)), .ref o0]) (rest := []) ⟨hx, hb, hml, hown, hts⟩ (c_L_online l dD cI cR cS s.heap.size cL hfl H.size hS.1 x0 b o0 ra sb hd ol σ out hI hX hJ (xs ((5 * j) + 1)) (xs ((5 * j) + 2))) (vx_cwSW 4 hts gL_law_L_online rfl rfl rfl (by decide +kernel) ⟨Nat.le_of_ble_eq_true rfl, Nat.le_of_ble_eq_true rfl⟩) (lPreS hE hKL hS ⟨rfl, vP_app1 hP, vD_app1 hD⟩) rfl rfl hl.1 rfl (lv_room (Nat.le_of_ble_eq_true rfl)) dL_law_997 ⟨by simp only [room_1]; omega, by simp only [room_1]; omega⟩) hS (fun q _ h => hFc q h) hFc (fun r_ u_ t_ H1 locs ht_ hvm_ hw1 hB_ hz_ hk_ hS => ?_)
  obtain ⟨hP, hD⟩ := fr_join (w1 := (xoW cI cR cS cL x0 b o0 (σ, ra, sb, hd, ol, out))) (w1' := (xoW cI cR cS cL x0 b o0 u_)) (w2 := mW cI m0 a th σ) hP hD hAH hk_ (by rw [← ht_]; exact hB_.1) hB_.2
  obtain ⟨hw1, hok⟩ := hw1
  refine lv_istore (lv' := [(5, .int r_), (0, .ref bq), (1, .ref x0), (2, .ref m0), (3, .ref o0), (4, .int (nI (5 * j)))]) hx hb dL_law_1000 hl (by decide) rfl (fun ls hl => ?_)
  refine lv_aload_n hx hb dL_law_1002 rfl (lv_at hl 3 rfl) ?_
  refine lv_aload_n hx hb dL_law_1003 rfl (lv_at hl 1 rfl) ?_
  refine lv_iload hx hb dL_law_1004 (lv_at hl 5 rfl) ?_
  refine lv_iconst (v := nI 1) hx hb dL_law_1006 (by decide +kernel) ?_
  refine nv_iadd hx hb dL_law_1007 ?_
  refine nv_sld hx hb hXs hbl hbA hS (by omega) (by omega) dL_law_1008 ?_
  refine lv_aload_n hx hb dL_law_1009 rfl (lv_at hl 1 rfl) ?_
  refine lv_iload hx hb dL_law_1010 (lv_at hl 5 rfl) ?_
  refine lv_iconst (v := nI 2) hx hb dL_law_1012 (by decide +kernel) ?_
  refine nv_iadd hx hb dL_law_1013 ?_
  refine nv_sld hx hb hXs hbl hbA hS (by omega) (by omega) dL_law_1014 ?_
  have hAH : ∀ q : Nat, H1.size ≤ q → s.heap.size ≤ q := fun q h => Nat.le_trans hS.1 h
  have hFc := fr_freeR (w1 := mW cI m0 a th σ) (w2 := (xoW cI cR cS cL x0 b o0 u_)) hD hAH
  refine va_calli (va_runV (As := [.int (xs ((5 * j) + 1)), .int (xs ((5 * j) + 2))]) (rest := []) ⟨hx, hb, hml, hown, hts⟩ (c_X3_online l dD cI cR cS s.heap.size H1.size hS.1 m0 a th σ hI (xs ((5 * j) + 1)) (xs ((5 * j) + 2))) (cwV 2 hts gL_law_X3_online rfl rfl rfl (by decide +kernel) ⟨Nat.le_of_ble_eq_true rfl, Nat.le_of_ble_eq_true rfl⟩) (ePreV hE hS (vP_app2 (w1 := (xoW cI cR cS cL x0 b o0 u_)) hP) (k := 0) rfl rfl ⟨rfl, vP_app2 (w1 := (xoW cI cR cS cL x0 b o0 u_)) hP, vD_app2 (w1 := (xoW cI cR cS cL x0 b o0 u_)) hD⟩) rfl rfl hl.1 rfl (lv_room (Nat.le_of_ble_eq_true rfl)) dL_law_1015 ⟨by simp only [room_1]; omega, by simp only [room_1]; omega⟩) hS (fun q _ h => hFc q h) hFc (fun r_1015 u_1015 t_ H1 locs ht_ hvm_ hw_1015 hB_ hz_ hk_ hS => ?_)
  obtain ⟨hP, hD⟩ := fr_joinR (w1 := mW cI m0 a th σ) (w1' := mW cI m0 a u_1015.1 u_1015.2) (w2 := (xoW cI cR cS cL x0 b o0 u_)) hP hD hAH hk_ (by rw [← ht_]; exact hB_) (va_D_fst (vD_app2 (w1 := (xoW cI cR cS cL x0 b o0 u_)) hD).self rfl)
  obtain ⟨th3, σ3⟩ := u_1015
  rcases hw1 with ⟨g1, g2, g3, rfl, g5⟩ | ⟨g1, g3, rfl⟩ | ⟨g1, g2, g3, rfl⟩
  · rcases hw_1015 with ⟨f1, f2, f3, f4⟩ | ⟨f1, f3⟩ | ⟨f1, f2, f3⟩
    · obtain ⟨rfl, hs3⟩ := Prod.mk.inj f3
      have hs : u_.1 = σ3 := g3.trans hs3.symm
      have hI3 : sI σ3 := by rw [← hs]; exact hok.1
      have hP : va_P dD vwCl ((xoW cI cR cS cL x0 b o0 u_) ++ mW cI m0 a 0 σ3) H1 := hP
      have hD : va_D (fun q => s.heap.size ≤ q) ((xoW cI cR cS cL x0 b o0 u_) ++ mW cI m0 a 0 σ3) := hD
      have hout : u_.2.2.2.2.2 0 = (r_1015).toInt64 := by rw [g5, f4]
      refine lv_istore (lv' := [(6, .int r_1015), (5, .int (nI 0)), (0, .ref bq), (1, .ref x0), (2, .ref m0), (3, .ref o0), (4, .int (nI (5 * j)))]) hx hb dL_law_1018 hl (by decide) rfl (fun ls hl => ?_)
      refine lv_aload_n hx hb dL_law_1020 rfl (lv_at hl 4 rfl) ?_
      have hAH : ∀ q : Nat, H1.size ≤ q → s.heap.size ≤ q := fun q h => Nat.le_trans hS.1 h
      have hFc := fr_freeR (w1 := mW cI m0 a 0 σ3) (w2 := (xoW cI cR cS cL x0 b o0 u_)) hD hAH
      refine va_calli (va_runV (As := []) (rest := []) ⟨hx, hb, hml, hown, hts⟩ (c_X3_thrown l dD cI cR cS s.heap.size H1.size hS.1 m0 a 0 σ3 hI3 ) (cwV 0 hts gL_law_X3_thrown rfl rfl rfl (by decide +kernel) ⟨Nat.le_of_ble_eq_true rfl, Nat.le_of_ble_eq_true rfl⟩) (ePreV hE hS (vP_app2 (w1 := (xoW cI cR cS cL x0 b o0 u_)) hP) (k := 0) rfl rfl ⟨rfl, vP_app2 (w1 := (xoW cI cR cS cL x0 b o0 u_)) hP, vD_app2 (w1 := (xoW cI cR cS cL x0 b o0 u_)) hD⟩) rfl rfl hl.1 rfl (lv_room (Nat.le_of_ble_eq_true rfl)) dL_law_1021 ⟨by simp only [room_1]; omega, by simp only [room_1]; omega⟩) hS (fun q _ h => hFc q h) hFc (fun r_1021 u_1021 t_ H1 locs ht_ hvm_ hw_1021 hB_ hz_ hk_ hS => ?_)
      obtain ⟨hP, hD⟩ := fr_joinR (w1 := mW cI m0 a 0 σ3) (w1' := mW cI m0 a u_1021.1 u_1021.2) (w2 := (xoW cI cR cS cL x0 b o0 u_)) hP hD hAH hk_ (by rw [← ht_]; exact hB_) (va_D_fst (vD_app2 (w1 := (xoW cI cR cS cL x0 b o0 u_)) hD).self rfl)
      obtain ⟨f5, rfl⟩ := hw_1021
      have hP : va_P dD vwCl ((xoW cI cR cS cL x0 b o0 u_) ++ mW cI m0 a 0 σ3) H1 := by rw [f5] at hP; exact hP
      have hD : va_D (fun q => s.heap.size ≤ q) ((xoW cI cR cS cL x0 b o0 u_) ++ mW cI m0 a 0 σ3) := by rw [f5] at hD; exact hD
      refine lv_iload hx hb dL_law_1024 (lv_at hl 1 rfl) ?_
      refine nv_eq (tgt := 1031) hx hb dL_law_1026 (by decide) (by decide) (by decide) (fun c_1026 => ?_) (fun c_1026 => absurd c_1026 (by decide))
      refine lv_iload hx hb dL_law_1031 (lv_at hl 1 rfl) ?_
      refine nv_if_ne (tgt := 1048) hx hb dL_law_1033 (by decide) (by decide) (fun c_1033 => absurd c_1033 (by decide)) (fun c_1033 => ?_)
      refine lv_aload_n hx hb dL_law_1036 rfl (lv_at hl 5 rfl) ?_
      refine lv_iconst (v := nI 0) hx hb dL_law_1037 (by decide +kernel) ?_
      refine va_lald hx hb hKL hP 0 0 rfl rfl (vp_in_nI (by decide) (by decide)) dL_law_1038 ?_
      rw [show (nI 0).toNatClampNeg = 0 from by decide, hout]
      refine lv_iload hx hb dL_law_1039 (lv_at hl 0 rfl) ?_
      refine lv_i2l (v := (r_1015).toInt64) hx hb dL_law_1041 rfl ?_
      refine W.lcmp hx hb dL_law_1042 ?_
      rw [lg_self]
      refine lv_if_eq (tgt := 1048) hx hb dL_law_1043 (by decide) (fun c_1043 => ?_) (fun c_1043 => absurd rfl c_1043)
      refine lv_goto (tgt := 1277) hx hb dL_law_1048 (by decide) ?_
      refine W.widen (k := 108 + 8 * j) (n := 3064 + 64 * j) (by omega) (by omega) ?_
      exact hn u_ 0 H1 locs hok (by rw [hs]; exact hP) (by rw [hs]; exact hD) hS ls (lv_sub hl [2, 3, 4, 5, 6] rfl)
    · exact absurd g1 f1
    · exact absurd g2 f2
  · rcases hw_1015 with ⟨f1, f2, f3, f4⟩ | ⟨f1, f3⟩ | ⟨f1, f2, f3⟩
    · exact absurd f1 g1
    · obtain ⟨rfl, hs3⟩ := Prod.mk.inj f3
      have hs : u_.1 = σ3 := g3.trans hs3.symm
      have hI3 : sI σ3 := by rw [← hs]; exact hok.1
      have hP : va_P dD vwCl ((xoW cI cR cS cL x0 b o0 u_) ++ mW cI m0 a 1 σ3) H1 := hP
      have hD : va_D (fun q => s.heap.size ≤ q) ((xoW cI cR cS cL x0 b o0 u_) ++ mW cI m0 a 1 σ3) := hD
      refine lv_istore (lv' := [(6, .int r_1015), (5, .int (nI 1)), (0, .ref bq), (1, .ref x0), (2, .ref m0), (3, .ref o0), (4, .int (nI (5 * j)))]) hx hb dL_law_1018 hl (by decide) rfl (fun ls hl => ?_)
      refine lv_aload_n hx hb dL_law_1020 rfl (lv_at hl 4 rfl) ?_
      have hAH : ∀ q : Nat, H1.size ≤ q → s.heap.size ≤ q := fun q h => Nat.le_trans hS.1 h
      have hFc := fr_freeR (w1 := mW cI m0 a 1 σ3) (w2 := (xoW cI cR cS cL x0 b o0 u_)) hD hAH
      refine va_calli (va_runV (As := []) (rest := []) ⟨hx, hb, hml, hown, hts⟩ (c_X3_thrown l dD cI cR cS s.heap.size H1.size hS.1 m0 a 1 σ3 hI3 ) (cwV 0 hts gL_law_X3_thrown rfl rfl rfl (by decide +kernel) ⟨Nat.le_of_ble_eq_true rfl, Nat.le_of_ble_eq_true rfl⟩) (ePreV hE hS (vP_app2 (w1 := (xoW cI cR cS cL x0 b o0 u_)) hP) (k := 0) rfl rfl ⟨rfl, vP_app2 (w1 := (xoW cI cR cS cL x0 b o0 u_)) hP, vD_app2 (w1 := (xoW cI cR cS cL x0 b o0 u_)) hD⟩) rfl rfl hl.1 rfl (lv_room (Nat.le_of_ble_eq_true rfl)) dL_law_1021 ⟨by simp only [room_1]; omega, by simp only [room_1]; omega⟩) hS (fun q _ h => hFc q h) hFc (fun r_1021 u_1021 t_ H1 locs ht_ hvm_ hw_1021 hB_ hz_ hk_ hS => ?_)
      obtain ⟨hP, hD⟩ := fr_joinR (w1 := mW cI m0 a 1 σ3) (w1' := mW cI m0 a u_1021.1 u_1021.2) (w2 := (xoW cI cR cS cL x0 b o0 u_)) hP hD hAH hk_ (by rw [← ht_]; exact hB_) (va_D_fst (vD_app2 (w1 := (xoW cI cR cS cL x0 b o0 u_)) hD).self rfl)
      obtain ⟨f5, rfl⟩ := hw_1021
      have hP : va_P dD vwCl ((xoW cI cR cS cL x0 b o0 u_) ++ mW cI m0 a 1 σ3) H1 := by rw [f5] at hP; exact hP
      have hD : va_D (fun q => s.heap.size ≤ q) ((xoW cI cR cS cL x0 b o0 u_) ++ mW cI m0 a 1 σ3) := by rw [f5] at hD; exact hD
      refine lv_iload hx hb dL_law_1024 (lv_at hl 1 rfl) ?_
      refine nv_eq (tgt := 1031) hx hb dL_law_1026 (by decide) (by decide) (by decide) (fun c_1026 => ?_) (fun c_1026 => absurd c_1026 (by decide))
      refine lv_iload hx hb dL_law_1031 (lv_at hl 1 rfl) ?_
      refine nv_if_ne (tgt := 1048) hx hb dL_law_1033 (by decide) (by decide) (fun c_1033 => ?_) (fun c_1033 => absurd c_1033 (by decide))
      refine lv_goto (tgt := 1277) hx hb dL_law_1048 (by decide) ?_
      refine W.widen (k := 108 + 8 * j) (n := 3064 + 64 * j) (by omega) (by omega) ?_
      exact hn u_ 1 H1 locs hok (by rw [hs]; exact hP) (by rw [hs]; exact hD) hS ls (lv_sub hl [2, 3, 4, 5, 6] rfl)
    · exact absurd f1 g1
  · rcases hw_1015 with ⟨f1, f2, f3, f4⟩ | ⟨f1, f3⟩ | ⟨f1, f2, f3⟩
    · exact absurd f2 g2
    · exact absurd g1 f1
    · obtain ⟨rfl, hs3⟩ := Prod.mk.inj f3
      have hs : u_.1 = σ3 := g3.trans hs3.symm
      have hI3 : sI σ3 := by rw [← hs]; exact hok.1
      have hP : va_P dD vwCl ((xoW cI cR cS cL x0 b o0 u_) ++ mW cI m0 a 2 σ3) H1 := hP
      have hD : va_D (fun q => s.heap.size ≤ q) ((xoW cI cR cS cL x0 b o0 u_) ++ mW cI m0 a 2 σ3) := hD
      refine lv_istore (lv' := [(6, .int r_1015), (5, .int (nI 2)), (0, .ref bq), (1, .ref x0), (2, .ref m0), (3, .ref o0), (4, .int (nI (5 * j)))]) hx hb dL_law_1018 hl (by decide) rfl (fun ls hl => ?_)
      refine lv_aload_n hx hb dL_law_1020 rfl (lv_at hl 4 rfl) ?_
      have hAH : ∀ q : Nat, H1.size ≤ q → s.heap.size ≤ q := fun q h => Nat.le_trans hS.1 h
      have hFc := fr_freeR (w1 := mW cI m0 a 2 σ3) (w2 := (xoW cI cR cS cL x0 b o0 u_)) hD hAH
      refine va_calli (va_runV (As := []) (rest := []) ⟨hx, hb, hml, hown, hts⟩ (c_X3_thrown l dD cI cR cS s.heap.size H1.size hS.1 m0 a 2 σ3 hI3 ) (cwV 0 hts gL_law_X3_thrown rfl rfl rfl (by decide +kernel) ⟨Nat.le_of_ble_eq_true rfl, Nat.le_of_ble_eq_true rfl⟩) (ePreV hE hS (vP_app2 (w1 := (xoW cI cR cS cL x0 b o0 u_)) hP) (k := 0) rfl rfl ⟨rfl, vP_app2 (w1 := (xoW cI cR cS cL x0 b o0 u_)) hP, vD_app2 (w1 := (xoW cI cR cS cL x0 b o0 u_)) hD⟩) rfl rfl hl.1 rfl (lv_room (Nat.le_of_ble_eq_true rfl)) dL_law_1021 ⟨by simp only [room_1]; omega, by simp only [room_1]; omega⟩) hS (fun q _ h => hFc q h) hFc (fun r_1021 u_1021 t_ H1 locs ht_ hvm_ hw_1021 hB_ hz_ hk_ hS => ?_)
      obtain ⟨hP, hD⟩ := fr_joinR (w1 := mW cI m0 a 2 σ3) (w1' := mW cI m0 a u_1021.1 u_1021.2) (w2 := (xoW cI cR cS cL x0 b o0 u_)) hP hD hAH hk_ (by rw [← ht_]; exact hB_) (va_D_fst (vD_app2 (w1 := (xoW cI cR cS cL x0 b o0 u_)) hD).self rfl)
      obtain ⟨f5, rfl⟩ := hw_1021
      have hP : va_P dD vwCl ((xoW cI cR cS cL x0 b o0 u_) ++ mW cI m0 a 2 σ3) H1 := by rw [f5] at hP; exact hP
      have hD : va_D (fun q => s.heap.size ≤ q) ((xoW cI cR cS cL x0 b o0 u_) ++ mW cI m0 a 2 σ3) := by rw [f5] at hD; exact hD
      refine lv_iload hx hb dL_law_1024 (lv_at hl 1 rfl) ?_
      refine nv_eq (tgt := 1031) hx hb dL_law_1026 (by decide) (by decide) (by decide) (fun c_1026 => ?_) (fun c_1026 => absurd c_1026 (by decide))
      refine lv_iload hx hb dL_law_1031 (lv_at hl 1 rfl) ?_
      refine nv_if_ne (tgt := 1048) hx hb dL_law_1033 (by decide) (by decide) (fun c_1033 => ?_) (fun c_1033 => absurd c_1033 (by decide))
      refine lv_goto (tgt := 1277) hx hb dL_law_1048 (by decide) ?_
      refine W.widen (k := 108 + 8 * j) (n := 3064 + 64 * j) (by omega) (by omega) ?_
      exact hn u_ 2 H1 locs hok (by rw [hs]; exact hP) (by rw [hs]; exact hD) hS ls (lv_sub hl [2, 3, 4, 5, 6] rfl)

set_option maxHeartbeats 4000000 in
set_option maxRecDepth 100000 in
theorem law_skew {p : Program} {l : Launch} {e_ : Env} {s : State} {m : MethodId} {below : List Frame} {meth : Method} {c : Code} {bq L : Nat} {xs : Nat → Int32} (hL : L ≤ 2560) (C0 : lw_At p s m meth c bq L xs) (hfl : l.stackTraces = false) {dD : va_G} {cI cR cS cL : ClassId} (hE : eE dD cI cR cS s.heap.size s s.heap) (hKL : va_K dD vwCl [(cL, .long)] s) {x0 m0 o0 : Nat} {b a : Nat → Nat} {j : Nat} (hj : 5 * j + 5 ≤ L) (hn : lS p l e_ s m below meth c bq dD cI cR cS cL x0 m0 o0 b a j (108 + 8 * j) (3064 + 64 * j) 1277) : lS p l e_ s m below meth c bq dD cI cR cS cL x0 m0 o0 b a j (100 + 8 * j) (3000 + 64 * j) 1051 := by
  obtain ⟨hx, hb, -, hml, hown, hts, hXs, hbl, hlocks, -⟩ := id C0
  have hown : s.vm.findClass RL = some m.cls := hown
  have hts : ∀ w ∈ wsL_law, w.before #[Value.ref bq] s = true := fun w h => hts w (wsL_law_in w h)
  have hbA : ¬ (fun q : Nat => s.heap.size ≤ q) bq := Nat.not_le.mpr hbl
  have hK := hE.1.1
  intro u th H locs hu hP hD hS ls hl
  obtain ⟨σ, ra, sb, hd, ol, out⟩ := u
  obtain ⟨hI, hX, hJ⟩ := hu
  have hI : sI σ := hI
  have hX : xI σ hd ol := hX
  have hJ : xJ σ hd ol := hJ
  have hP : va_P dD vwCl ((xoW cI cR cS cL x0 b o0 (σ, ra, sb, hd, ol, out)) ++ mW cI m0 a th σ) H := hP
  have hD : va_D (fun q => s.heap.size ≤ q) ((xoW cI cR cS cL x0 b o0 (σ, ra, sb, hd, ol, out)) ++ mW cI m0 a th σ) := hD
  refine lv_aload_n hx hb dL_law_1051 rfl (lv_at hl 1 rfl) ?_
  refine vp_callSi (va_Run.run (va_runV (As := []) (rest := []) ⟨hx, hb, hml, hown, hts⟩ (c_X2_skew l dD cI cR cS s.heap.size x0 b ra sb hd ol σ hI hX) (cwV 0 hts gL_law_X2_skew rfl rfl rfl (by decide +kernel) ⟨Nat.le_of_ble_eq_true rfl, Nat.le_of_ble_eq_true rfl⟩) (ePreV hE hS hP (k := 1) rfl rfl (vP_app2 (w1 := [(o0, .inl (cL, 1, .inr (.inl out)))]) (vP_app1 hP))) rfl rfl hl.1 rfl (lv_room (Nat.le_of_ble_eq_true rfl)) dL_law_1052 ⟨by simp only [room_1]; omega, by simp only [room_1]; omega⟩)) (fun r_1052 hr_1052 => ?_)
  subst hr_1052
  refine lv_aload_n hx hb dL_law_1055 rfl (lv_at hl 2 rfl) ?_
  have hAH : ∀ q : Nat, H.size ≤ q → s.heap.size ≤ q := fun q h => Nat.le_trans hS.1 h
  have hFc := fr_freeR (w1 := mW cI m0 a th σ) (w2 := (xoW cI cR cS cL x0 b o0 (σ, ra, sb, hd, ol, out))) hD hAH
  refine va_calli (va_runV (As := []) (rest := [.int (nI (q_skew σ 60))]) ⟨hx, hb, hml, hown, hts⟩ (c_X3_skew l dD cI cR cS s.heap.size H.size hS.1 m0 a th σ hI ) (cwV 0 hts gL_law_X3_skew rfl rfl rfl (by decide +kernel) ⟨Nat.le_of_ble_eq_true rfl, Nat.le_of_ble_eq_true rfl⟩) (ePreV hE hS (vP_app2 (w1 := (xoW cI cR cS cL x0 b o0 (σ, ra, sb, hd, ol, out))) hP) (k := 0) rfl rfl ⟨rfl, vP_app2 (w1 := (xoW cI cR cS cL x0 b o0 (σ, ra, sb, hd, ol, out))) hP, vD_app2 (w1 := (xoW cI cR cS cL x0 b o0 (σ, ra, sb, hd, ol, out))) hD⟩) rfl rfl hl.1 rfl (lv_room (Nat.le_of_ble_eq_true rfl)) dL_law_1056 ⟨by simp only [room_1]; omega, by simp only [room_1]; omega⟩) hS (fun q _ h => hFc q h) hFc (fun r_1056 u_1056 t_ H1 locs ht_ hvm_ hw_1056 hB_ hz_ hk_ hS => ?_)
  obtain ⟨hP, hD⟩ := fr_joinR (w1 := mW cI m0 a th σ) (w1' := mW cI m0 a u_1056.1 u_1056.2) (w2 := (xoW cI cR cS cL x0 b o0 (σ, ra, sb, hd, ol, out))) hP hD hAH hk_ (by rw [← ht_]; exact hB_) (va_D_fst (vD_app2 (w1 := (xoW cI cR cS cL x0 b o0 (σ, ra, sb, hd, ol, out))) hD).self rfl)
  obtain ⟨f5, rfl⟩ := hw_1056
  have hP : va_P dD vwCl ((xoW cI cR cS cL x0 b o0 (σ, ra, sb, hd, ol, out)) ++ mW cI m0 a 0 σ) H1 := by rw [f5] at hP; exact hP
  have hD : va_D (fun q => s.heap.size ≤ q) ((xoW cI cR cS cL x0 b o0 (σ, ra, sb, hd, ol, out)) ++ mW cI m0 a 0 σ) := by rw [f5] at hD; exact hD
  refine lv_icmp_eq (tgt := 1277) hx hb dL_law_1059 (by decide) (fun c_1059 => ?_) (fun c_1059 => absurd rfl c_1059)
  refine W.widen (k := 108 + 8 * j) (n := 3064 + 64 * j) (by omega) (by omega) ?_
  exact hn (σ, ra, sb, hd, ol, out) 0 H1 locs ⟨hI, hX, hJ⟩ hP hD hS ls (lv_sub hl [0, 1, 2, 3, 4] rfl)
