/-! the law's cases (laid by wip/whole/gen/lawcases.py) -/
set_option maxHeartbeats 4000000 in
set_option maxRecDepth 100000 in
theorem law_arrive {p : Program} {l : Launch} {e_ : Env} {s : State} {m : MethodId} {below : List Frame} {meth : Method} {c : Code} {bq L : Nat} {xs : Nat → Int32} (hL : L ≤ 2560) (C0 : lw_At p s m meth c bq L xs) (hfl : l.stackTraces = false) {dD : va_G} {cI cR cS cL : ClassId} (hE : eE dD cI cR cS s.heap.size s s.heap) (hKL : va_K dD vwCl [(cL, .long)] s) {x0 m0 o0 : Nat} {b a : Nat → Nat} {j : Nat} (hj : 5 * j + 5 ≤ L) (hn : lS p l e_ s m below meth c bq dD cI cR cS cL x0 m0 o0 b a j (108 + 8 * j) (3064 + 64 * j) 1277) : lS p l e_ s m below meth c bq dD cI cR cS cL x0 m0 o0 b a j (100 + 8 * j) (3000 + 64 * j) 136 := by
  obtain ⟨hx, hb, -, hml, hown, hts, hXs, hbl, hlocks, -⟩ := id C0
  have hown : s.vm.findClass RL = some m.cls := hown
  have hts : ∀ w ∈ wsL_law, w.before #[Value.ref bq] s = true := fun w h => hts w (wsL_law_in w h)
  have hbA : ¬ (fun q : Nat => s.heap.size ≤ q) bq := Nat.not_le.mpr hbl
  have hK := hE.1.1
  intro u th H locs hu hP hD hS ls hl
  obtain ⟨σ, ra, sb, hd, ol, out⟩ := u
  obtain ⟨hI, hX, hJ⟩ := hu
  have hI : sI σ := hI
  have hX : xI σ hd ol := hX
  have hJ : xJ σ hd ol := hJ
  have hP : va_P dD vwCl ((xoW cI cR cS cL x0 b o0 (σ, ra, sb, hd, ol, out)) ++ mW cI m0 a th σ) H := hP
  have hD : va_D (fun q => s.heap.size ≤ q) ((xoW cI cR cS cL x0 b o0 (σ, ra, sb, hd, ol, out)) ++ mW cI m0 a th σ) := hD
  refine lv_aload_n hx hb dL_law_136 rfl (lv_at hl 1 rfl) ?_
  refine lv_aload_n hx hb dL_law_137 rfl (lv_at hl 0 rfl) ?_
  refine lv_iload hx hb dL_law_138 (lv_at hl 4 rfl) ?_
  refine lv_iconst (v := nI 1) hx hb dL_law_140 (by decide +kernel) ?_
  refine nv_iadd hx hb dL_law_141 ?_
  refine nv_sld hx hb hXs hbl hbA hS (by omega) (by omega) dL_law_142 ?_
  refine lv_aload_n hx hb dL_law_143 rfl (lv_at hl 0 rfl) ?_
  refine lv_iload hx hb dL_law_144 (lv_at hl 4 rfl) ?_
  refine lv_iconst (v := nI 2) hx hb dL_law_146 (by decide +kernel) ?_
  refine nv_iadd hx hb dL_law_147 ?_
  refine nv_sld hx hb hXs hbl hbA hS (by omega) (by omega) dL_law_148 ?_
  refine lv_aload_n hx hb dL_law_149 rfl (lv_at hl 0 rfl) ?_
  refine lv_iload hx hb dL_law_150 (lv_at hl 4 rfl) ?_
  refine lv_iconst (v := nI 3) hx hb dL_law_152 (by decide +kernel) ?_
  refine nv_iadd hx hb dL_law_153 ?_
  refine nv_sld hx hb hXs hbl hbA hS (by omega) (by omega) dL_law_154 ?_
  refine lv_aload_n hx hb dL_law_155 rfl (lv_at hl 0 rfl) ?_
  refine lv_iload hx hb dL_law_156 (lv_at hl 4 rfl) ?_
  refine lv_iconst (v := nI 4) hx hb dL_law_158 (by decide +kernel) ?_
  refine nv_iadd hx hb dL_law_159 ?_
  refine nv_sld hx hb hXs hbl hbA hS (by omega) (by omega) dL_law_160 ?_
  refine lv_aload_n hx hb dL_law_161 rfl (lv_at hl 3 rfl) ?_
  have hAH : ∀ q : Nat, H.size ≤ q → s.heap.size ≤ q := fun q h => Nat.le_trans hS.1 h
  have hFc := fr_free (w1 := (xoW cI cR cS cL x0 b o0 (σ, ra, sb, hd, ol, out))) (w2 := mW cI m0 a th σ) hD hAH
  refine va_calli (vx_runSW (As := [.ref x0, .int (xs ((5 * j) + 1)), .int (xs ((5 * j) + 2)), .int (xs ((5 * j) + 3)), .int (xs ((5 * j) + 4)), .ref o0]) (rest := []) ⟨hx, hb, hml, hown, hts⟩ (c_L_arrive l dD cI cR cS s.heap.size cL hfl H.size hS.1 x0 b o0 ra sb hd ol σ out hI hX hJ (xs ((5 * j) + 1)) (xs ((5 * j) + 2)) (xs ((5 * j) + 3)) (xs ((5 * j) + 4))) (vx_cwSW 6 hts gL_law_L_arrive rfl rfl rfl (by decide +kernel) ⟨Nat.le_of_ble_eq_true rfl, Nat.le_of_ble_eq_true rfl⟩) (lPreS hE hKL hS ⟨rfl, vP_app1 hP, vD_app1 hD⟩) rfl rfl hl.1 rfl (lv_room (Nat.le_of_ble_eq_true rfl)) dL_law_162 ⟨by simp only [room_1]; omega, by simp only [room_1]; omega⟩) hS (fun q _ h => hFc q h) hFc (fun r_ u_ t_ H1 locs ht_ hvm_ hw1 hB_ hz_ hk_ hS => ?_)
  obtain ⟨hP, hD⟩ := fr_join (w1 := (xoW cI cR cS cL x0 b o0 (σ, ra, sb, hd, ol, out))) (w1' := (xoW cI cR cS cL x0 b o0 u_)) (w2 := mW cI m0 a th σ) hP hD hAH hk_ (by rw [← ht_]; exact hB_.1) hB_.2
  obtain ⟨hw1, hok⟩ := hw1
  refine lv_istore (lv' := [(5, .int r_), (0, .ref bq), (1, .ref x0), (2, .ref m0), (3, .ref o0), (4, .int (nI (5 * j)))]) hx hb dL_law_165 hl (by decide) rfl (fun ls hl => ?_)
  refine lv_aload_n hx hb dL_law_167 rfl (lv_at hl 3 rfl) ?_
  refine lv_aload_n hx hb dL_law_168 rfl (lv_at hl 1 rfl) ?_
  refine lv_iload hx hb dL_law_169 (lv_at hl 5 rfl) ?_
  refine lv_iconst (v := nI 1) hx hb dL_law_171 (by decide +kernel) ?_
  refine nv_iadd hx hb dL_law_172 ?_
  refine nv_sld hx hb hXs hbl hbA hS (by omega) (by omega) dL_law_173 ?_
  refine lv_aload_n hx hb dL_law_174 rfl (lv_at hl 1 rfl) ?_
  refine lv_iload hx hb dL_law_175 (lv_at hl 5 rfl) ?_
  refine lv_iconst (v := nI 2) hx hb dL_law_177 (by decide +kernel) ?_
  refine nv_iadd hx hb dL_law_178 ?_
  refine nv_sld hx hb hXs hbl hbA hS (by omega) (by omega) dL_law_179 ?_
  refine lv_aload_n hx hb dL_law_180 rfl (lv_at hl 1 rfl) ?_
  refine lv_iload hx hb dL_law_181 (lv_at hl 5 rfl) ?_
  refine lv_iconst (v := nI 3) hx hb dL_law_183 (by decide +kernel) ?_
  refine nv_iadd hx hb dL_law_184 ?_
  refine nv_sld hx hb hXs hbl hbA hS (by omega) (by omega) dL_law_185 ?_
  refine lv_aload_n hx hb dL_law_186 rfl (lv_at hl 1 rfl) ?_
  refine lv_iload hx hb dL_law_187 (lv_at hl 5 rfl) ?_
  refine lv_iconst (v := nI 4) hx hb dL_law_189 (by decide +kernel) ?_
  refine nv_iadd hx hb dL_law_190 ?_
  refine nv_sld hx hb hXs hbl hbA hS (by omega) (by omega) dL_law_191 ?_
  have hAH : ∀ q : Nat, H1.size ≤ q → s.heap.size ≤ q := fun q h => Nat.le_trans hS.1 h
  have hFc := fr_freeR (w1 := mW cI m0 a th σ) (w2 := (xoW cI cR cS cL x0 b o0 u_)) hD hAH
  refine va_calli (va_runV (As := [.int (xs ((5 * j) + 1)), .int (xs ((5 * j) + 2)), .int (xs ((5 * j) + 3)), .int (xs ((5 * j) + 4))]) (rest := []) ⟨hx, hb, hml, hown, hts⟩ (c_X3_arrive l dD cI cR cS s.heap.size H1.size hS.1 m0 a th σ hI (xs ((5 * j) + 1)) (xs ((5 * j) + 2)) (xs ((5 * j) + 3)) (xs ((5 * j) + 4))) (cwV 4 hts gL_law_X3_arrive rfl rfl rfl (by decide +kernel) ⟨Nat.le_of_ble_eq_true rfl, Nat.le_of_ble_eq_true rfl⟩) (ePreV hE hS (vP_app2 (w1 := (xoW cI cR cS cL x0 b o0 u_)) hP) (k := 0) rfl rfl ⟨rfl, vP_app2 (w1 := (xoW cI cR cS cL x0 b o0 u_)) hP, vD_app2 (w1 := (xoW cI cR cS cL x0 b o0 u_)) hD⟩) rfl rfl hl.1 rfl (lv_room (Nat.le_of_ble_eq_true rfl)) dL_law_192 ⟨by simp only [room_1]; omega, by simp only [room_1]; omega⟩) hS (fun q _ h => hFc q h) hFc (fun r_192 u_192 t_ H1 locs ht_ hvm_ hw_192 hB_ hz_ hk_ hS => ?_)
  obtain ⟨hP, hD⟩ := fr_joinR (w1 := mW cI m0 a th σ) (w1' := mW cI m0 a u_192.1 u_192.2) (w2 := (xoW cI cR cS cL x0 b o0 u_)) hP hD hAH hk_ (by rw [← ht_]; exact hB_) (va_D_fst (vD_app2 (w1 := (xoW cI cR cS cL x0 b o0 u_)) hD).self rfl)
  obtain ⟨th3, σ3⟩ := u_192
  rcases hw1 with ⟨g1, g2, g3, rfl, g5⟩ | ⟨g1, g3, rfl⟩ | ⟨g1, g2, g3, rfl⟩
  · rcases hw_192 with ⟨f1, f2, f3, f4⟩ | ⟨f1, f3⟩ | ⟨f1, f2, f3⟩
    · obtain ⟨rfl, hs3⟩ := Prod.mk.inj f3
      have hs : u_.1 = σ3 := g3.trans hs3.symm
      have hI3 : sI σ3 := by rw [← hs]; exact hok.1
      have hP : va_P dD vwCl ((xoW cI cR cS cL x0 b o0 u_) ++ mW cI m0 a 0 σ3) H1 := hP
      have hD : va_D (fun q => s.heap.size ≤ q) ((xoW cI cR cS cL x0 b o0 u_) ++ mW cI m0 a 0 σ3) := hD
      have hout : u_.2.2.2.2.2 0 = (r_192).toInt64 := by rw [g5, f4]
      refine lv_istore (lv' := [(6, .int r_192), (5, .int (nI 0)), (0, .ref bq), (1, .ref x0), (2, .ref m0), (3, .ref o0), (4, .int (nI (5 * j)))]) hx hb dL_law_195 hl (by decide) rfl (fun ls hl => ?_)
      refine lv_aload_n hx hb dL_law_197 rfl (lv_at hl 4 rfl) ?_
      have hAH : ∀ q : Nat, H1.size ≤ q → s.heap.size ≤ q := fun q h => Nat.le_trans hS.1 h
      have hFc := fr_freeR (w1 := mW cI m0 a 0 σ3) (w2 := (xoW cI cR cS cL x0 b o0 u_)) hD hAH
      refine va_calli (va_runV (As := []) (rest := []) ⟨hx, hb, hml, hown, hts⟩ (c_X3_thrown l dD cI cR cS s.heap.size H1.size hS.1 m0 a 0 σ3 hI3 ) (cwV 0 hts gL_law_X3_thrown rfl rfl rfl (by decide +kernel) ⟨Nat.le_of_ble_eq_true rfl, Nat.le_of_ble_eq_true rfl⟩) (ePreV hE hS (vP_app2 (w1 := (xoW cI cR cS cL x0 b o0 u_)) hP) (k := 0) rfl rfl ⟨rfl, vP_app2 (w1 := (xoW cI cR cS cL x0 b o0 u_)) hP, vD_app2 (w1 := (xoW cI cR cS cL x0 b o0 u_)) hD⟩) rfl rfl hl.1 rfl (lv_room (Nat.le_of_ble_eq_true rfl)) dL_law_198 ⟨by simp only [room_1]; omega, by simp only [room_1]; omega⟩) hS (fun q _ h => hFc q h) hFc (fun r_198 u_198 t_ H1 locs ht_ hvm_ hw_198 hB_ hz_ hk_ hS => ?_)
      obtain ⟨hP, hD⟩ := fr_joinR (w1 := mW cI m0 a 0 σ3) (w1' := mW cI m0 a u_198.1 u_198.2) (w2 := (xoW cI cR cS cL x0 b o0 u_)) hP hD hAH hk_ (by rw [← ht_]; exact hB_) (va_D_fst (vD_app2 (w1 := (xoW cI cR cS cL x0 b o0 u_)) hD).self rfl)
      obtain ⟨f5, rfl⟩ := hw_198
      have hP : va_P dD vwCl ((xoW cI cR cS cL x0 b o0 u_) ++ mW cI m0 a 0 σ3) H1 := by rw [f5] at hP; exact hP
      have hD : va_D (fun q => s.heap.size ≤ q) ((xoW cI cR cS cL x0 b o0 u_) ++ mW cI m0 a 0 σ3) := by rw [f5] at hD; exact hD
      refine lv_iload hx hb dL_law_201 (lv_at hl 1 rfl) ?_
      refine nv_eq (tgt := 208) hx hb dL_law_203 (by decide) (by decide) (by decide) (fun c_203 => ?_) (fun c_203 => absurd c_203 (by decide))
      refine lv_iload hx hb dL_law_208 (lv_at hl 1 rfl) ?_
      refine nv_if_ne (tgt := 225) hx hb dL_law_210 (by decide) (by decide) (fun c_210 => absurd c_210 (by decide)) (fun c_210 => ?_)
      refine lv_aload_n hx hb dL_law_213 rfl (lv_at hl 5 rfl) ?_
      refine lv_iconst (v := nI 0) hx hb dL_law_214 (by decide +kernel) ?_
      refine va_lald hx hb hKL hP 0 0 rfl rfl (vp_in_nI (by decide) (by decide)) dL_law_215 ?_
      rw [show (nI 0).toNatClampNeg = 0 from by decide, hout]
      refine lv_iload hx hb dL_law_216 (lv_at hl 0 rfl) ?_
      refine lv_i2l (v := (r_192).toInt64) hx hb dL_law_218 rfl ?_
      refine W.lcmp hx hb dL_law_219 ?_
      rw [lg_self]
      refine lv_if_eq (tgt := 225) hx hb dL_law_220 (by decide) (fun c_220 => ?_) (fun c_220 => absurd rfl c_220)
      refine lv_goto (tgt := 1277) hx hb dL_law_225 (by decide) ?_
      refine W.widen (k := 108 + 8 * j) (n := 3064 + 64 * j) (by omega) (by omega) ?_
      exact hn u_ 0 H1 locs hok (by rw [hs]; exact hP) (by rw [hs]; exact hD) hS ls (lv_sub hl [2, 3, 4, 5, 6] rfl)
    · exact absurd g1 f1
    · exact absurd g2 f2
  · rcases hw_192 with ⟨f1, f2, f3, f4⟩ | ⟨f1, f3⟩ | ⟨f1, f2, f3⟩
    · exact absurd f1 g1
    · obtain ⟨rfl, hs3⟩ := Prod.mk.inj f3
      have hs : u_.1 = σ3 := g3.trans hs3.symm
      have hI3 : sI σ3 := by rw [← hs]; exact hok.1
      have hP : va_P dD vwCl ((xoW cI cR cS cL x0 b o0 u_) ++ mW cI m0 a 1 σ3) H1 := hP
      have hD : va_D (fun q => s.heap.size ≤ q) ((xoW cI cR cS cL x0 b o0 u_) ++ mW cI m0 a 1 σ3) := hD
      refine lv_istore (lv' := [(6, .int r_192), (5, .int (nI 1)), (0, .ref bq), (1, .ref x0), (2, .ref m0), (3, .ref o0), (4, .int (nI (5 * j)))]) hx hb dL_law_195 hl (by decide) rfl (fun ls hl => ?_)
      refine lv_aload_n hx hb dL_law_197 rfl (lv_at hl 4 rfl) ?_
      have hAH : ∀ q : Nat, H1.size ≤ q → s.heap.size ≤ q := fun q h => Nat.le_trans hS.1 h
      have hFc := fr_freeR (w1 := mW cI m0 a 1 σ3) (w2 := (xoW cI cR cS cL x0 b o0 u_)) hD hAH
      refine va_calli (va_runV (As := []) (rest := []) ⟨hx, hb, hml, hown, hts⟩ (c_X3_thrown l dD cI cR cS s.heap.size H1.size hS.1 m0 a 1 σ3 hI3 ) (cwV 0 hts gL_law_X3_thrown rfl rfl rfl (by decide +kernel) ⟨Nat.le_of_ble_eq_true rfl, Nat.le_of_ble_eq_true rfl⟩) (ePreV hE hS (vP_app2 (w1 := (xoW cI cR cS cL x0 b o0 u_)) hP) (k := 0) rfl rfl ⟨rfl, vP_app2 (w1 := (xoW cI cR cS cL x0 b o0 u_)) hP, vD_app2 (w1 := (xoW cI cR cS cL x0 b o0 u_)) hD⟩) rfl rfl hl.1 rfl (lv_room (Nat.le_of_ble_eq_true rfl)) dL_law_198 ⟨by simp only [room_1]; omega, by simp only [room_1]; omega⟩) hS (fun q _ h => hFc q h) hFc (fun r_198 u_198 t_ H1 locs ht_ hvm_ hw_198 hB_ hz_ hk_ hS => ?_)
      obtain ⟨hP, hD⟩ := fr_joinR (w1 := mW cI m0 a 1 σ3) (w1' := mW cI m0 a u_198.1 u_198.2) (w2 := (xoW cI cR cS cL x0 b o0 u_)) hP hD hAH hk_ (by rw [← ht_]; exact hB_) (va_D_fst (vD_app2 (w1 := (xoW cI cR cS cL x0 b o0 u_)) hD).self rfl)
      obtain ⟨f5, rfl⟩ := hw_198
      have hP : va_P dD vwCl ((xoW cI cR cS cL x0 b o0 u_) ++ mW cI m0 a 1 σ3) H1 := by rw [f5] at hP; exact hP
      have hD : va_D (fun q => s.heap.size ≤ q) ((xoW cI cR cS cL x0 b o0 u_) ++ mW cI m0 a 1 σ3) := by rw [f5] at hD; exact hD
      refine lv_iload hx hb dL_law_201 (lv_at hl 1 rfl) ?_
      refine nv_eq (tgt := 208) hx hb dL_law_203 (by decide) (by decide) (by decide) (fun c_203 => ?_) (fun c_203 => absurd c_203 (by decide))
      refine lv_iload hx hb dL_law_208 (lv_at hl 1 rfl) ?_
      refine nv_if_ne (tgt := 225) hx hb dL_law_210 (by decide) (by decide) (fun c_210 => ?_) (fun c_210 => absurd c_210 (by decide))
      refine lv_goto (tgt := 1277) hx hb dL_law_225 (by decide) ?_
      refine W.widen (k := 108 + 8 * j) (n := 3064 + 64 * j) (by omega) (by omega) ?_
      exact hn u_ 1 H1 locs hok (by rw [hs]; exact hP) (by rw [hs]; exact hD) hS ls (lv_sub hl [2, 3, 4, 5, 6] rfl)
    · exact absurd f1 g1
  · rcases hw_192 with ⟨f1, f2, f3, f4⟩ | ⟨f1, f3⟩ | ⟨f1, f2, f3⟩
    · exact absurd f2 g2
    · exact absurd g1 f1
    · obtain ⟨rfl, hs3⟩ := Prod.mk.inj f3
      have hs : u_.1 = σ3 := g3.trans hs3.symm
      have hI3 : sI σ3 := by rw [← hs]; exact hok.1
      have hP : va_P dD vwCl ((xoW cI cR cS cL x0 b o0 u_) ++ mW cI m0 a 2 σ3) H1 := hP
      have hD : va_D (fun q => s.heap.size ≤ q) ((xoW cI cR cS cL x0 b o0 u_) ++ mW cI m0 a 2 σ3) := hD
      refine lv_istore (lv' := [(6, .int r_192), (5, .int (nI 2)), (0, .ref bq), (1, .ref x0), (2, .ref m0), (3, .ref o0), (4, .int (nI (5 * j)))]) hx hb dL_law_195 hl (by decide) rfl (fun ls hl => ?_)
      refine lv_aload_n hx hb dL_law_197 rfl (lv_at hl 4 rfl) ?_
      have hAH : ∀ q : Nat, H1.size ≤ q → s.heap.size ≤ q := fun q h => Nat.le_trans hS.1 h
      have hFc := fr_freeR (w1 := mW cI m0 a 2 σ3) (w2 := (xoW cI cR cS cL x0 b o0 u_)) hD hAH
      refine va_calli (va_runV (As := []) (rest := []) ⟨hx, hb, hml, hown, hts⟩ (c_X3_thrown l dD cI cR cS s.heap.size H1.size hS.1 m0 a 2 σ3 hI3 ) (cwV 0 hts gL_law_X3_thrown rfl rfl rfl (by decide +kernel) ⟨Nat.le_of_ble_eq_true rfl, Nat.le_of_ble_eq_true rfl⟩) (ePreV hE hS (vP_app2 (w1 := (xoW cI cR cS cL x0 b o0 u_)) hP) (k := 0) rfl rfl ⟨rfl, vP_app2 (w1 := (xoW cI cR cS cL x0 b o0 u_)) hP, vD_app2 (w1 := (xoW cI cR cS cL x0 b o0 u_)) hD⟩) rfl rfl hl.1 rfl (lv_room (Nat.le_of_ble_eq_true rfl)) dL_law_198 ⟨by simp only [room_1]; omega, by simp only [room_1]; omega⟩) hS (fun q _ h => hFc q h) hFc (fun r_198 u_198 t_ H1 locs ht_ hvm_ hw_198 hB_ hz_ hk_ hS => ?_)
      obtain ⟨hP, hD⟩ := fr_joinR (w1 := mW cI m0 a 2 σ3) (w1' := mW cI m0 a u_198.1 u_198.2) (w2 := (xoW cI cR cS cL x0 b o0 u_)) hP hD hAH hk_ (by rw [← ht_]; exact hB_) (va_D_fst (vD_app2 (w1 := (xoW cI cR cS cL x0 b o0 u_)) hD).self rfl)
      obtain ⟨f5, rfl⟩ := hw_198
      have hP : va_P dD vwCl ((xoW cI cR cS cL x0 b o0 u_) ++ mW cI m0 a 2 σ3) H1 := by rw [f5] at hP; exact hP
      have hD : va_D (fun q => s.heap.size ≤ q) ((xoW cI cR cS cL x0 b o0 u_) ++ mW cI m0 a 2 σ3) := by rw [f5] at hD; exact hD
      refine lv_iload hx hb dL_law_201 (lv_at hl 1 rfl) ?_
      refine nv_eq (tgt := 208) hx hb dL_law_203 (by decide) (by decide) (by decide) (fun c_203 => ?_) (fun c_203 => absurd c_203 (by decide))
      refine lv_iload hx hb dL_law_208 (lv_at hl 1 rfl) ?_
      refine nv_if_ne (tgt := 225) hx hb dL_law_210 (by decide) (by decide) (fun c_210 => ?_) (fun c_210 => absurd c_210 (by decide))
      refine lv_goto (tgt := 1277) hx hb dL_law_225 (by decide) ?_
      refine W.widen (k := 108 + 8 * j) (n := 3064 + 64 * j) (by omega) (by omega) ?_
      exact hn u_ 2 H1 locs hok (by rw [hs]; exact hP) (by rw [hs]; exact hD) hS ls (lv_sub hl [2, 3, 4, 5, 6] rfl)

set_option maxHeartbeats 4000000 in
set_option maxRecDepth 100000 in
theorem law_pass {p : Program} {l : Launch} {e_ : Env} {s : State} {m : MethodId} {below : List Frame} {meth : Method} {c : Code} {bq L : Nat} {xs : Nat → Int32} (hL : L ≤ 2560) (C0 : lw_At p s m meth c bq L xs) (hfl : l.stackTraces = false) {dD : va_G} {cI cR cS cL : ClassId} (hE : eE dD cI cR cS s.heap.size s s.heap) (hKL : va_K dD vwCl [(cL, .long)] s) {x0 m0 o0 : Nat} {b a : Nat → Nat} {j : Nat} (hj : 5 * j + 5 ≤ L) (hn : lS p l e_ s m below meth c bq dD cI cR cS cL x0 m0 o0 b a j (108 + 8 * j) (3064 + 64 * j) 1277) : lS p l e_ s m below meth c bq dD cI cR cS cL x0 m0 o0 b a j (100 + 8 * j) (3000 + 64 * j) 228 := by
  obtain ⟨hx, hb, -, hml, hown, hts, hXs, hbl, hlocks, -⟩ := id C0
  have hown : s.vm.findClass RL = some m.cls := hown
  have hts : ∀ w ∈ wsL_law, w.before #[Value.ref bq] s = true := fun w h => hts w (wsL_law_in w h)
  have hbA : ¬ (fun q : Nat => s.heap.size ≤ q) bq := Nat.not_le.mpr hbl
  have hK := hE.1.1
  intro u th H locs hu hP hD hS ls hl
  obtain ⟨σ, ra, sb, hd, ol, out⟩ := u
  obtain ⟨hI, hX, hJ⟩ := hu
  have hI : sI σ := hI
  have hX : xI σ hd ol := hX
  have hJ : xJ σ hd ol := hJ
  have hP : va_P dD vwCl ((xoW cI cR cS cL x0 b o0 (σ, ra, sb, hd, ol, out)) ++ mW cI m0 a th σ) H := hP
  have hD : va_D (fun q => s.heap.size ≤ q) ((xoW cI cR cS cL x0 b o0 (σ, ra, sb, hd, ol, out)) ++ mW cI m0 a th σ) := hD
  refine lv_aload_n hx hb dL_law_228 rfl (lv_at hl 1 rfl) ?_
  refine lv_aload_n hx hb dL_law_229 rfl (lv_at hl 0 rfl) ?_
  refine lv_iload hx hb dL_law_230 (lv_at hl 4 rfl) ?_
  refine lv_iconst (v := nI 1) hx hb dL_law_232 (by decide +kernel) ?_
  refine nv_iadd hx hb dL_law_233 ?_
  refine nv_sld hx hb hXs hbl hbA hS (by omega) (by omega) dL_law_234 ?_
  refine lv_aload_n hx hb dL_law_235 rfl (lv_at hl 3 rfl) ?_
  have hAH : ∀ q : Nat, H.size ≤ q → s.heap.size ≤ q := fun q h => Nat.le_trans hS.1 h
  have hFc := fr_free (w1 := (xoW cI cR cS cL x0 b o0 (σ, ra, sb, hd, ol, out))) (w2 := mW cI m0 a th σ) hD hAH
  refine va_calli (vx_runSW (As := [.ref x0, .int (xs ((5 * j) + 1)), .ref o0]) (rest := []) ⟨hx, hb, hml, hown, hts⟩ (c_L_pass l dD cI cR cS s.heap.size cL hfl H.size hS.1 x0 b o0 ra sb hd ol σ out hI hX hJ (xs ((5 * j) + 1))) (vx_cwSW 3 hts gL_law_L_pass rfl rfl rfl (by decide +kernel) ⟨Nat.le_of_ble_eq_true rfl, Nat.le_of_ble_eq_true rfl⟩) (lPreS hE hKL hS ⟨rfl, vP_app1 hP, vD_app1 hD⟩) rfl rfl hl.1 rfl (lv_room (Nat.le_of_ble_eq_true rfl)) dL_law_236 ⟨by simp only [room_1]; omega, by simp only [room_1]; omega⟩) hS (fun q _ h => hFc q h) hFc (fun r_ u_ t_ H1 locs ht_ hvm_ hw1 hB_ hz_ hk_ hS => ?_)
  obtain ⟨hP, hD⟩ := fr_join (w1 := (xoW cI cR cS cL x0 b o0 (σ, ra, sb, hd, ol, out))) (w1' := (xoW cI cR cS cL x0 b o0 u_)) (w2 := mW cI m0 a th σ) hP hD hAH hk_ (by rw [← ht_]; exact hB_.1) hB_.2
  obtain ⟨hw1, hok⟩ := hw1
  refine lv_istore (lv' := [(5, .int r_), (0, .ref bq), (1, .ref x0), (2, .ref m0), (3, .ref o0), (4, .int (nI (5 * j)))]) hx hb dL_law_239 hl (by decide) rfl (fun ls hl => ?_)
  refine lv_aload_n hx hb dL_law_241 rfl (lv_at hl 3 rfl) ?_
  refine lv_aload_n hx hb dL_law_242 rfl (lv_at hl 1 rfl) ?_
  refine lv_iload hx hb dL_law_243 (lv_at hl 5 rfl) ?_
  refine lv_iconst (v := nI 1) hx hb dL_law_245 (by decide +kernel) ?_
  refine nv_iadd hx hb dL_law_246 ?_
  refine nv_sld hx hb hXs hbl hbA hS (by omega) (by omega) dL_law_247 ?_
  have hAH : ∀ q : Nat, H1.size ≤ q → s.heap.size ≤ q := fun q h => Nat.le_trans hS.1 h
  have hFc := fr_freeR (w1 := mW cI m0 a th σ) (w2 := (xoW cI cR cS cL x0 b o0 u_)) hD hAH
  refine va_calli (va_runV (As := [.int (xs ((5 * j) + 1))]) (rest := []) ⟨hx, hb, hml, hown, hts⟩ (c_X3_pass l dD cI cR cS s.heap.size H1.size hS.1 m0 a th σ hI (xs ((5 * j) + 1))) (cwV 1 hts gL_law_X3_pass rfl rfl rfl (by decide +kernel) ⟨Nat.le_of_ble_eq_true rfl, Nat.le_of_ble_eq_true rfl⟩) (ePreV hE hS (vP_app2 (w1 := (xoW cI cR cS cL x0 b o0 u_)) hP) (k := 0) rfl rfl ⟨rfl, vP_app2 (w1 := (xoW cI cR cS cL x0 b o0 u_)) hP, vD_app2 (w1 := (xoW cI cR cS cL x0 b o0 u_)) hD⟩) rfl rfl hl.1 rfl (lv_room (Nat.le_of_ble_eq_true rfl)) dL_law_248 ⟨by simp only [room_1]; omega, by simp only [room_1]; omega⟩) hS (fun q _ h => hFc q h) hFc (fun r_248 u_248 t_ H1 locs ht_ hvm_ hw_248 hB_ hz_ hk_ hS => ?_)
  obtain ⟨hP, hD⟩ := fr_joinR (w1 := mW cI m0 a th σ) (w1' := mW cI m0 a u_248.1 u_248.2) (w2 := (xoW cI cR cS cL x0 b o0 u_)) hP hD hAH hk_ (by rw [← ht_]; exact hB_) (va_D_fst (vD_app2 (w1 := (xoW cI cR cS cL x0 b o0 u_)) hD).self rfl)
  obtain ⟨th3, σ3⟩ := u_248
  rcases hw1 with ⟨g1, g2, g3, rfl, g5⟩ | ⟨g1, g3, rfl⟩ | ⟨g1, g2, g3, rfl⟩
  · rcases hw_248 with ⟨f1, f2, f3, f4⟩ | ⟨f1, f3⟩ | ⟨f1, f2, f3⟩
    · obtain ⟨rfl, hs3⟩ := Prod.mk.inj f3
      have hs : u_.1 = σ3 := g3.trans hs3.symm
      have hI3 : sI σ3 := by rw [← hs]; exact hok.1
      have hP : va_P dD vwCl ((xoW cI cR cS cL x0 b o0 u_) ++ mW cI m0 a 0 σ3) H1 := hP
      have hD : va_D (fun q => s.heap.size ≤ q) ((xoW cI cR cS cL x0 b o0 u_) ++ mW cI m0 a 0 σ3) := hD
      have hout : u_.2.2.2.2.2 0 = (r_248).toInt64 := by rw [g5, f4]
      refine lv_istore (lv' := [(6, .int r_248), (5, .int (nI 0)), (0, .ref bq), (1, .ref x0), (2, .ref m0), (3, .ref o0), (4, .int (nI (5 * j)))]) hx hb dL_law_251 hl (by decide) rfl (fun ls hl => ?_)
      refine lv_aload_n hx hb dL_law_253 rfl (lv_at hl 4 rfl) ?_
      have hAH : ∀ q : Nat, H1.size ≤ q → s.heap.size ≤ q := fun q h => Nat.le_trans hS.1 h
      have hFc := fr_freeR (w1 := mW cI m0 a 0 σ3) (w2 := (xoW cI cR cS cL x0 b o0 u_)) hD hAH
      refine va_calli (va_runV (As := []) (rest := []) ⟨hx, hb, hml, hown, hts⟩ (c_X3_thrown l dD cI cR cS s.heap.size H1.size hS.1 m0 a 0 σ3 hI3 ) (cwV 0 hts gL_law_X3_thrown rfl rfl rfl (by decide +kernel) ⟨Nat.le_of_ble_eq_true rfl, Nat.le_of_ble_eq_true rfl⟩) (ePreV hE hS (vP_app2 (w1 := (xoW cI cR cS cL x0 b o0 u_)) hP) (k := 0) rfl rfl ⟨rfl, vP_app2 (w1 := (xoW cI cR cS cL x0 b o0 u_)) hP, vD_app2 (w1 := (xoW cI cR cS cL x0 b o0 u_)) hD⟩) rfl rfl hl.1 rfl (lv_room (Nat.le_of_ble_eq_true rfl)) dL_law_254 ⟨by simp only [room_1]; omega, by simp only [room_1]; omega⟩) hS (fun q _ h => hFc q h) hFc (fun r_254 u_254 t_ H1 locs ht_ hvm_ hw_254 hB_ hz_ hk_ hS => ?_)
      obtain ⟨hP, hD⟩ := fr_joinR (w1 := mW cI m0 a 0 σ3) (w1' := mW cI m0 a u_254.1 u_254.2) (w2 := (xoW cI cR cS cL x0 b o0 u_)) hP hD hAH hk_ (by rw [← ht_]; exact hB_) (va_D_fst (vD_app2 (w1 := (xoW cI cR cS cL x0 b o0 u_)) hD).self rfl)
      obtain ⟨f5, rfl⟩ := hw_254
      have hP : va_P dD vwCl ((xoW cI cR cS cL x0 b o0 u_) ++ mW cI m0 a 0 σ3) H1 := by rw [f5] at hP; exact hP
      have hD : va_D (fun q => s.heap.size ≤ q) ((xoW cI cR cS cL x0 b o0 u_) ++ mW cI m0 a 0 σ3) := by rw [f5] at hD; exact hD
      refine lv_iload hx hb dL_law_257 (lv_at hl 1 rfl) ?_
      refine nv_eq (tgt := 264) hx hb dL_law_259 (by decide) (by decide) (by decide) (fun c_259 => ?_) (fun c_259 => absurd c_259 (by decide))
      refine lv_iload hx hb dL_law_264 (lv_at hl 1 rfl) ?_
      refine nv_if_ne (tgt := 281) hx hb dL_law_266 (by decide) (by decide) (fun c_266 => absurd c_266 (by decide)) (fun c_266 => ?_)
      refine lv_aload_n hx hb dL_law_269 rfl (lv_at hl 5 rfl) ?_
      refine lv_iconst (v := nI 0) hx hb dL_law_270 (by decide +kernel) ?_
      refine va_lald hx hb hKL hP 0 0 rfl rfl (vp_in_nI (by decide) (by decide)) dL_law_271 ?_
      rw [show (nI 0).toNatClampNeg = 0 from by decide, hout]
      refine lv_iload hx hb dL_law_272 (lv_at hl 0 rfl) ?_
      refine lv_i2l (v := (r_248).toInt64) hx hb dL_law_274 rfl ?_
      refine W.lcmp hx hb dL_law_275 ?_
      rw [lg_self]
      refine lv_if_eq (tgt := 281) hx hb dL_law_276 (by decide) (fun c_276 => ?_) (fun c_276 => absurd rfl c_276)
      refine lv_goto (tgt := 1277) hx hb dL_law_281 (by decide) ?_
      refine W.widen (k := 108 + 8 * j) (n := 3064 + 64 * j) (by omega) (by omega) ?_
      exact hn u_ 0 H1 locs hok (by rw [hs]; exact hP) (by rw [hs]; exact hD) hS ls (lv_sub hl [2, 3, 4, 5, 6] rfl)
    · exact absurd g1 f1
    · exact absurd g2 f2
  · rcases hw_248 with ⟨f1, f2, f3, f4⟩ | ⟨f1, f3⟩ | ⟨f1, f2, f3⟩
    · exact absurd f1 g1
    · obtain ⟨rfl, hs3⟩ := Prod.mk.inj f3
      have hs : u_.1 = σ3 := g3.trans hs3.symm
      have hI3 : sI σ3 := by rw [← hs]; exact hok.1
      have hP : va_P dD vwCl ((xoW cI cR cS cL x0 b o0 u_) ++ mW cI m0 a 1 σ3) H1 := hP
      have hD : va_D (fun q => s.heap.size ≤ q) ((xoW cI cR cS cL x0 b o0 u_) ++ mW cI m0 a 1 σ3) := hD
      refine lv_istore (lv' := [(6, .int r_248), (5, .int (nI 1)), (0, .ref bq), (1, .ref x0), (2, .ref m0), (3, .ref o0), (4, .int (nI (5 * j)))]) hx hb dL_law_251 hl (by decide) rfl (fun ls hl => ?_)
      refine lv_aload_n hx hb dL_law_253 rfl (lv_at hl 4 rfl) ?_
      have hAH : ∀ q : Nat, H1.size ≤ q → s.heap.size ≤ q := fun q h => Nat.le_trans hS.1 h
      have hFc := fr_freeR (w1 := mW cI m0 a 1 σ3) (w2 := (xoW cI cR cS cL x0 b o0 u_)) hD hAH
      refine va_calli (va_runV (As := []) (rest := []) ⟨hx, hb, hml, hown, hts⟩ (c_X3_thrown l dD cI cR cS s.heap.size H1.size hS.1 m0 a 1 σ3 hI3 ) (cwV 0 hts gL_law_X3_thrown rfl rfl rfl (by decide +kernel) ⟨Nat.le_of_ble_eq_true rfl, Nat.le_of_ble_eq_true rfl⟩) (ePreV hE hS (vP_app2 (w1 := (xoW cI cR cS cL x0 b o0 u_)) hP) (k := 0) rfl rfl ⟨rfl, vP_app2 (w1 := (xoW cI cR cS cL x0 b o0 u_)) hP, vD_app2 (w1 := (xoW cI cR cS cL x0 b o0 u_)) hD⟩) rfl rfl hl.1 rfl (lv_room (Nat.le_of_ble_eq_true rfl)) dL_law_254 ⟨by simp only [room_1]; omega, by simp only [room_1]; omega⟩) hS (fun q _ h => hFc q h) hFc (fun r_254 u_254 t_ H1 locs ht_ hvm_ hw_254 hB_ hz_ hk_ hS => ?_)
      obtain ⟨hP, hD⟩ := fr_joinR (w1 := mW cI m0 a 1 σ3) (w1' := mW cI m0 a u_254.1 u_254.2) (w2 := (xoW cI cR cS cL x0 b o0 u_)) hP hD hAH hk_ (by rw [← ht_]; exact hB_) (va_D_fst (vD_app2 (w1 := (xoW cI cR cS cL x0 b o0 u_)) hD).self rfl)
      obtain ⟨f5, rfl⟩ := hw_254
      have hP : va_P dD vwCl ((xoW cI cR cS cL x0 b o0 u_) ++ mW cI m0 a 1 σ3) H1 := by rw [f5] at hP; exact hP
      have hD : va_D (fun q => s.heap.size ≤ q) ((xoW cI cR cS cL x0 b o0 u_) ++ mW cI m0 a 1 σ3) := by rw [f5] at hD; exact hD
      refine lv_iload hx hb dL_law_257 (lv_at hl 1 rfl) ?_
      refine nv_eq (tgt := 264) hx hb dL_law_259 (by decide) (by decide) (by decide) (fun c_259 => ?_) (fun c_259 => absurd c_259 (by decide))
      refine lv_iload hx hb dL_law_264 (lv_at hl 1 rfl) ?_
      refine nv_if_ne (tgt := 281) hx hb dL_law_266 (by decide) (by decide) (fun c_266 => ?_) (fun c_266 => absurd c_266 (by decide))
      refine lv_goto (tgt := 1277) hx hb dL_law_281 (by decide) ?_
      refine W.widen (k := 108 + 8 * j) (n := 3064 + 64 * j) (by omega) (by omega) ?_
      exact hn u_ 1 H1 locs hok (by rw [hs]; exact hP) (by rw [hs]; exact hD) hS ls (lv_sub hl [2, 3, 4, 5, 6] rfl)
    · exact absurd f1 g1
  · rcases hw_248 with ⟨f1, f2, f3, f4⟩ | ⟨f1, f3⟩ | ⟨f1, f2, f3⟩
    · exact absurd f2 g2
    · exact absurd g1 f1
    · obtain ⟨rfl, hs3⟩ := Prod.mk.inj f3
      have hs : u_.1 = σ3 := g3.trans hs3.symm
      have hI3 : sI σ3 := by rw [← hs]; exact hok.1
      have hP : va_P dD vwCl ((xoW cI cR cS cL x0 b o0 u_) ++ mW cI m0 a 2 σ3) H1 := hP
      have hD : va_D (fun q => s.heap.size ≤ q) ((xoW cI cR cS cL x0 b o0 u_) ++ mW cI m0 a 2 σ3) := hD
      refine lv_istore (lv' := [(6, .int r_248), (5, .int (nI 2)), (0, .ref bq), (1, .ref x0), (2, .ref m0), (3, .ref o0), (4, .int (nI (5 * j)))]) hx hb dL_law_251 hl (by decide) rfl (fun ls hl => ?_)
      refine lv_aload_n hx hb dL_law_253 rfl (lv_at hl 4 rfl) ?_
      have hAH : ∀ q : Nat, H1.size ≤ q → s.heap.size ≤ q := fun q h => Nat.le_trans hS.1 h
      have hFc := fr_freeR (w1 := mW cI m0 a 2 σ3) (w2 := (xoW cI cR cS cL x0 b o0 u_)) hD hAH
      refine va_calli (va_runV (As := []) (rest := []) ⟨hx, hb, hml, hown, hts⟩ (c_X3_thrown l dD cI cR cS s.heap.size H1.size hS.1 m0 a 2 σ3 hI3 ) (cwV 0 hts gL_law_X3_thrown rfl rfl rfl (by decide +kernel) ⟨Nat.le_of_ble_eq_true rfl, Nat.le_of_ble_eq_true rfl⟩) (ePreV hE hS (vP_app2 (w1 := (xoW cI cR cS cL x0 b o0 u_)) hP) (k := 0) rfl rfl ⟨rfl, vP_app2 (w1 := (xoW cI cR cS cL x0 b o0 u_)) hP, vD_app2 (w1 := (xoW cI cR cS cL x0 b o0 u_)) hD⟩) rfl rfl hl.1 rfl (lv_room (Nat.le_of_ble_eq_true rfl)) dL_law_254 ⟨by simp only [room_1]; omega, by simp only [room_1]; omega⟩) hS (fun q _ h => hFc q h) hFc (fun r_254 u_254 t_ H1 locs ht_ hvm_ hw_254 hB_ hz_ hk_ hS => ?_)
      obtain ⟨hP, hD⟩ := fr_joinR (w1 := mW cI m0 a 2 σ3) (w1' := mW cI m0 a u_254.1 u_254.2) (w2 := (xoW cI cR cS cL x0 b o0 u_)) hP hD hAH hk_ (by rw [← ht_]; exact hB_) (va_D_fst (vD_app2 (w1 := (xoW cI cR cS cL x0 b o0 u_)) hD).self rfl)
      obtain ⟨f5, rfl⟩ := hw_254
      have hP : va_P dD vwCl ((xoW cI cR cS cL x0 b o0 u_) ++ mW cI m0 a 2 σ3) H1 := by rw [f5] at hP; exact hP
      have hD : va_D (fun q => s.heap.size ≤ q) ((xoW cI cR cS cL x0 b o0 u_) ++ mW cI m0 a 2 σ3) := by rw [f5] at hD; exact hD
      refine lv_iload hx hb dL_law_257 (lv_at hl 1 rfl) ?_
      refine nv_eq (tgt := 264) hx hb dL_law_259 (by decide) (by decide) (by decide) (fun c_259 => ?_) (fun c_259 => absurd c_259 (by decide))
      refine lv_iload hx hb dL_law_264 (lv_at hl 1 rfl) ?_
      refine nv_if_ne (tgt := 281) hx hb dL_law_266 (by decide) (by decide) (fun c_266 => ?_) (fun c_266 => absurd c_266 (by decide))
      refine lv_goto (tgt := 1277) hx hb dL_law_281 (by decide) ?_
      refine W.widen (k := 108 + 8 * j) (n := 3064 + 64 * j) (by omega) (by omega) ?_
      exact hn u_ 2 H1 locs hok (by rw [hs]; exact hP) (by rw [hs]; exact hD) hS ls (lv_sub hl [2, 3, 4, 5, 6] rfl)

set_option maxHeartbeats 4000000 in
set_option maxRecDepth 100000 in
theorem law_setLifetime {p : Program} {l : Launch} {e_ : Env} {s : State} {m : MethodId} {below : List Frame} {meth : Method} {c : Code} {bq L : Nat} {xs : Nat → Int32} (hL : L ≤ 2560) (C0 : lw_At p s m meth c bq L xs) (hfl : l.stackTraces = false) {dD : va_G} {cI cR cS cL : ClassId} (hE : eE dD cI cR cS s.heap.size s s.heap) (hKL : va_K dD vwCl [(cL, .long)] s) {x0 m0 o0 : Nat} {b a : Nat → Nat} {j : Nat} (hj : 5 * j + 5 ≤ L) (hn : lS p l e_ s m below meth c bq dD cI cR cS cL x0 m0 o0 b a j (108 + 8 * j) (3064 + 64 * j) 1277) : lS p l e_ s m below meth c bq dD cI cR cS cL x0 m0 o0 b a j (100 + 8 * j) (3000 + 64 * j) 284 := by
  obtain ⟨hx, hb, -, hml, hown, hts, hXs, hbl, hlocks, -⟩ := id C0
  have hown : s.vm.findClass RL = some m.cls := hown
  have hts : ∀ w ∈ wsL_law, w.before #[Value.ref bq] s = true := fun w h => hts w (wsL_law_in w h)
  have hbA : ¬ (fun q : Nat => s.heap.size ≤ q) bq := Nat.not_le.mpr hbl
  have hK := hE.1.1
  intro u th H locs hu hP hD hS ls hl
  obtain ⟨σ, ra, sb, hd, ol, out⟩ := u
  obtain ⟨hI, hX, hJ⟩ := hu
  have hI : sI σ := hI
  have hX : xI σ hd ol := hX
  have hJ : xJ σ hd ol := hJ
  have hP : va_P dD vwCl ((xoW cI cR cS cL x0 b o0 (σ, ra, sb, hd, ol, out)) ++ mW cI m0 a th σ) H := hP
  have hD : va_D (fun q => s.heap.size ≤ q) ((xoW cI cR cS cL x0 b o0 (σ, ra, sb, hd, ol, out)) ++ mW cI m0 a th σ) := hD
  refine lv_aload_n hx hb dL_law_284 rfl (lv_at hl 1 rfl) ?_
  refine lv_aload_n hx hb dL_law_285 rfl (lv_at hl 0 rfl) ?_
  refine lv_iload hx hb dL_law_286 (lv_at hl 4 rfl) ?_
  refine lv_iconst (v := nI 1) hx hb dL_law_288 (by decide +kernel) ?_
  refine nv_iadd hx hb dL_law_289 ?_
  refine nv_sld hx hb hXs hbl hbA hS (by omega) (by omega) dL_law_290 ?_
  refine lv_aload_n hx hb dL_law_291 rfl (lv_at hl 0 rfl) ?_
  refine lv_iload hx hb dL_law_292 (lv_at hl 4 rfl) ?_
  refine lv_iconst (v := nI 2) hx hb dL_law_294 (by decide +kernel) ?_
  refine nv_iadd hx hb dL_law_295 ?_
  refine nv_sld hx hb hXs hbl hbA hS (by omega) (by omega) dL_law_296 ?_
  refine lv_aload_n hx hb dL_law_297 rfl (lv_at hl 3 rfl) ?_
  have hAH : ∀ q : Nat, H.size ≤ q → s.heap.size ≤ q := fun q h => Nat.le_trans hS.1 h
  have hFc := fr_free (w1 := (xoW cI cR cS cL x0 b o0 (σ, ra, sb, hd, ol, out))) (w2 := mW cI m0 a th σ) hD hAH
  refine va_calli (vx_runSW (As := [.ref x0, .int (xs ((5 * j) + 1)), .int (xs ((5 * j) + 2)), .ref o0]) (rest := []) ⟨hx, hb, hml, hown, hts⟩ (c_L_setLifetime l dD cI cR cS s.heap.size cL hfl H.size hS.1 x0 b o0 ra sb hd ol σ out hI hX hJ (xs ((5 * j) + 1)) (xs ((5 * j) + 2))) (vx_cwSW 4 hts gL_law_L_setLifetime rfl rfl rfl (by decide +kernel) ⟨Nat.le_of_ble_eq_true rfl, Nat.le_of_ble_eq_true rfl⟩) (lPreS hE hKL hS ⟨rfl, vP_app1 hP, vD_app1 hD⟩) rfl rfl hl.1 rfl (lv_room (Nat.le_of_ble_eq_true rfl)) dL_law_298 ⟨by simp only [room_1]; omega, by simp only [room_1]; omega⟩) hS (fun q _ h => hFc q h) hFc (fun r_ u_ t_ H1 locs ht_ hvm_ hw1 hB_ hz_ hk_ hS => ?_)
  obtain ⟨hP, hD⟩ := fr_join (w1 := (xoW cI cR cS cL x0 b o0 (σ, ra, sb, hd, ol, out))) (w1' := (xoW cI cR cS cL x0 b o0 u_)) (w2 := mW cI m0 a th σ) hP hD hAH hk_ (by rw [← ht_]; exact hB_.1) hB_.2
  obtain ⟨hw1, hok⟩ := hw1
  refine lv_istore (lv' := [(5, .int r_), (0, .ref bq), (1, .ref x0), (2, .ref m0), (3, .ref o0), (4, .int (nI (5 * j)))]) hx hb dL_law_301 hl (by decide) rfl (fun ls hl => ?_)
  refine lv_aload_n hx hb dL_law_303 rfl (lv_at hl 3 rfl) ?_
  refine lv_aload_n hx hb dL_law_304 rfl (lv_at hl 1 rfl) ?_
  refine lv_iload hx hb dL_law_305 (lv_at hl 5 rfl) ?_
  refine lv_iconst (v := nI 1) hx hb dL_law_307 (by decide +kernel) ?_
  refine nv_iadd hx hb dL_law_308 ?_
  refine nv_sld hx hb hXs hbl hbA hS (by omega) (by omega) dL_law_309 ?_
  refine lv_aload_n hx hb dL_law_310 rfl (lv_at hl 1 rfl) ?_
  refine lv_iload hx hb dL_law_311 (lv_at hl 5 rfl) ?_
  refine lv_iconst (v := nI 2) hx hb dL_law_313 (by decide +kernel) ?_
  refine nv_iadd hx hb dL_law_314 ?_
  refine nv_sld hx hb hXs hbl hbA hS (by omega) (by omega) dL_law_315 ?_
  have hAH : ∀ q : Nat, H1.size ≤ q → s.heap.size ≤ q := fun q h => Nat.le_trans hS.1 h
  have hFc := fr_freeR (w1 := mW cI m0 a th σ) (w2 := (xoW cI cR cS cL x0 b o0 u_)) hD hAH
  refine va_calli (va_runV (As := [.int (xs ((5 * j) + 1)), .int (xs ((5 * j) + 2))]) (rest := []) ⟨hx, hb, hml, hown, hts⟩ (c_X3_setLifetime l dD cI cR cS s.heap.size H1.size hS.1 m0 a th σ hI (xs ((5 * j) + 1)) (xs ((5 * j) + 2))) (cwV 2 hts gL_law_X3_setLifetime rfl rfl rfl (by decide +kernel) ⟨Nat.le_of_ble_eq_true rfl, Nat.le_of_ble_eq_true rfl⟩) (ePreV hE hS (vP_app2 (w1 := (xoW cI cR cS cL x0 b o0 u_)) hP) (k := 0) rfl rfl ⟨rfl, vP_app2 (w1 := (xoW cI cR cS cL x0 b o0 u_)) hP, vD_app2 (w1 := (xoW cI cR cS cL x0 b o0 u_)) hD⟩) rfl rfl hl.1 rfl (lv_room (Nat.le_of_ble_eq_true rfl)) dL_law_316 ⟨by simp only [room_1]; omega, by simp only [room_1]; omega⟩) hS (fun q _ h => hFc q h) hFc (fun r_316 u_316 t_ H1 locs ht_ hvm_ hw_316 hB_ hz_ hk_ hS => ?_)
  obtain ⟨hP, hD⟩ := fr_joinR (w1 := mW cI m0 a th σ) (w1' := mW cI m0 a u_316.1 u_316.2) (w2 := (xoW cI cR cS cL x0 b o0 u_)) hP hD hAH hk_ (by rw [← ht_]; exact hB_) (va_D_fst (vD_app2 (w1 := (xoW cI cR cS cL x0 b o0 u_)) hD).self rfl)
  obtain ⟨th3, σ3⟩ := u_316
  rcases hw1 with ⟨g1, g2, g3, rfl, g5⟩ | ⟨g1, g3, rfl⟩ | ⟨g1, g2, g3, rfl⟩
  · rcases hw_316 with ⟨f1, f2, f3, f4⟩ | ⟨f1, f3⟩ | ⟨f1, f2, f3⟩
    · obtain ⟨rfl, hs3⟩ := Prod.mk.inj f3
      have hs : u_.1 = σ3 := g3.trans hs3.symm
      have hI3 : sI σ3 := by rw [← hs]; exact hok.1
      have hP : va_P dD vwCl ((xoW cI cR cS cL x0 b o0 u_) ++ mW cI m0 a 0 σ3) H1 := hP
      have hD : va_D (fun q => s.heap.size ≤ q) ((xoW cI cR cS cL x0 b o0 u_) ++ mW cI m0 a 0 σ3) := hD
      have hout : u_.2.2.2.2.2 0 = (r_316).toInt64 := by rw [g5, f4]
      refine lv_istore (lv' := [(6, .int r_316), (5, .int (nI 0)), (0, .ref bq), (1, .ref x0), (2, .ref m0), (3, .ref o0), (4, .int (nI (5 * j)))]) hx hb dL_law_319 hl (by decide) rfl (fun ls hl => ?_)
      refine lv_aload_n hx hb dL_law_321 rfl (lv_at hl 4 rfl) ?_
      have hAH : ∀ q : Nat, H1.size ≤ q → s.heap.size ≤ q := fun q h => Nat.le_trans hS.1 h
      have hFc := fr_freeR (w1 := mW cI m0 a 0 σ3) (w2 := (xoW cI cR cS cL x0 b o0 u_)) hD hAH
      refine va_calli (va_runV (As := []) (rest := []) ⟨hx, hb, hml, hown, hts⟩ (c_X3_thrown l dD cI cR cS s.heap.size H1.size hS.1 m0 a 0 σ3 hI3 ) (cwV 0 hts gL_law_X3_thrown rfl rfl rfl (by decide +kernel) ⟨Nat.le_of_ble_eq_true rfl, Nat.le_of_ble_eq_true rfl⟩) (ePreV hE hS (vP_app2 (w1 := (xoW cI cR cS cL x0 b o0 u_)) hP) (k := 0) rfl rfl ⟨rfl, vP_app2 (w1 := (xoW cI cR cS cL x0 b o0 u_)) hP, vD_app2 (w1 := (xoW cI cR cS cL x0 b o0 u_)) hD⟩) rfl rfl hl.1 rfl (lv_room (Nat.le_of_ble_eq_true rfl)) dL_law_322 ⟨by simp only [room_1]; omega, by simp only [room_1]; omega⟩) hS (fun q _ h => hFc q h) hFc (fun r_322 u_322 t_ H1 locs ht_ hvm_ hw_322 hB_ hz_ hk_ hS => ?_)
      obtain ⟨hP, hD⟩ := fr_joinR (w1 := mW cI m0 a 0 σ3) (w1' := mW cI m0 a u_322.1 u_322.2) (w2 := (xoW cI cR cS cL x0 b o0 u_)) hP hD hAH hk_ (by rw [← ht_]; exact hB_) (va_D_fst (vD_app2 (w1 := (xoW cI cR cS cL x0 b o0 u_)) hD).self rfl)
      obtain ⟨f5, rfl⟩ := hw_322
      have hP : va_P dD vwCl ((xoW cI cR cS cL x0 b o0 u_) ++ mW cI m0 a 0 σ3) H1 := by rw [f5] at hP; exact hP
      have hD : va_D (fun q => s.heap.size ≤ q) ((xoW cI cR cS cL x0 b o0 u_) ++ mW cI m0 a 0 σ3) := by rw [f5] at hD; exact hD
      refine lv_iload hx hb dL_law_325 (lv_at hl 1 rfl) ?_
      refine nv_eq (tgt := 332) hx hb dL_law_327 (by decide) (by decide) (by decide) (fun c_327 => ?_) (fun c_327 => absurd c_327 (by decide))
      refine lv_iload hx hb dL_law_332 (lv_at hl 1 rfl) ?_
      refine nv_if_ne (tgt := 349) hx hb dL_law_334 (by decide) (by decide) (fun c_334 => absurd c_334 (by decide)) (fun c_334 => ?_)
      refine lv_aload_n hx hb dL_law_337 rfl (lv_at hl 5 rfl) ?_
      refine lv_iconst (v := nI 0) hx hb dL_law_338 (by decide +kernel) ?_
      refine va_lald hx hb hKL hP 0 0 rfl rfl (vp_in_nI (by decide) (by decide)) dL_law_339 ?_
      rw [show (nI 0).toNatClampNeg = 0 from by decide, hout]
      refine lv_iload hx hb dL_law_340 (lv_at hl 0 rfl) ?_
      refine lv_i2l (v := (r_316).toInt64) hx hb dL_law_342 rfl ?_
      refine W.lcmp hx hb dL_law_343 ?_
      rw [lg_self]
      refine lv_if_eq (tgt := 349) hx hb dL_law_344 (by decide) (fun c_344 => ?_) (fun c_344 => absurd rfl c_344)
      refine lv_goto (tgt := 1277) hx hb dL_law_349 (by decide) ?_
      refine W.widen (k := 108 + 8 * j) (n := 3064 + 64 * j) (by omega) (by omega) ?_
      exact hn u_ 0 H1 locs hok (by rw [hs]; exact hP) (by rw [hs]; exact hD) hS ls (lv_sub hl [2, 3, 4, 5, 6] rfl)
    · exact absurd g1 f1
    · exact absurd g2 f2
  · rcases hw_316 with ⟨f1, f2, f3, f4⟩ | ⟨f1, f3⟩ | ⟨f1, f2, f3⟩
    · exact absurd f1 g1
    · obtain ⟨rfl, hs3⟩ := Prod.mk.inj f3
      have hs : u_.1 = σ3 := g3.trans hs3.symm
      have hI3 : sI σ3 := by rw [← hs]; exact hok.1
      have hP : va_P dD vwCl ((xoW cI cR cS cL x0 b o0 u_) ++ mW cI m0 a 1 σ3) H1 := hP
      have hD : va_D (fun q => s.heap.size ≤ q) ((xoW cI cR cS cL x0 b o0 u_) ++ mW cI m0 a 1 σ3) := hD
      refine lv_istore (lv' := [(6, .int r_316), (5, .int (nI 1)), (0, .ref bq), (1, .ref x0), (2, .ref m0), (3, .ref o0), (4, .int (nI (5 * j)))]) hx hb dL_law_319 hl (by decide) rfl (fun ls hl => ?_)
      refine lv_aload_n hx hb dL_law_321 rfl (lv_at hl 4 rfl) ?_
      have hAH : ∀ q : Nat, H1.size ≤ q → s.heap.size ≤ q := fun q h => Nat.le_trans hS.1 h
      have hFc := fr_freeR (w1 := mW cI m0 a 1 σ3) (w2 := (xoW cI cR cS cL x0 b o0 u_)) hD hAH
      refine va_calli (va_runV (As := []) (rest := []) ⟨hx, hb, hml, hown, hts⟩ (c_X3_thrown l dD cI cR cS s.heap.size H1.size hS.1 m0 a 1 σ3 hI3 ) (cwV 0 hts gL_law_X3_thrown rfl rfl rfl (by decide +kernel) ⟨Nat.le_of_ble_eq_true rfl, Nat.le_of_ble_eq_true rfl⟩) (ePreV hE hS (vP_app2 (w1 := (xoW cI cR cS cL x0 b o0 u_)) hP) (k := 0) rfl rfl ⟨rfl, vP_app2 (w1 := (xoW cI cR cS cL x0 b o0 u_)) hP, vD_app2 (w1 := (xoW cI cR cS cL x0 b o0 u_)) hD⟩) rfl rfl hl.1 rfl (lv_room (Nat.le_of_ble_eq_true rfl)) dL_law_322 ⟨by simp only [room_1]; omega, by simp only [room_1]; omega⟩) hS (fun q _ h => hFc q h) hFc (fun r_322 u_322 t_ H1 locs ht_ hvm_ hw_322 hB_ hz_ hk_ hS => ?_)
      obtain ⟨hP, hD⟩ := fr_joinR (w1 := mW cI m0 a 1 σ3) (w1' := mW cI m0 a u_322.1 u_322.2) (w2 := (xoW cI cR cS cL x0 b o0 u_)) hP hD hAH hk_ (by rw [← ht_]; exact hB_) (va_D_fst (vD_app2 (w1 := (xoW cI cR cS cL x0 b o0 u_)) hD).self rfl)
      obtain ⟨f5, rfl⟩ := hw_322
      have hP : va_P dD vwCl ((xoW cI cR cS cL x0 b o0 u_) ++ mW cI m0 a 1 σ3) H1 := by rw [f5] at hP; exact hP
      have hD : va_D (fun q => s.heap.size ≤ q) ((xoW cI cR cS cL x0 b o0 u_) ++ mW cI m0 a 1 σ3) := by rw [f5] at hD; exact hD
      refine lv_iload hx hb dL_law_325 (lv_at hl 1 rfl) ?_
      refine nv_eq (tgt := 332) hx hb dL_law_327 (by decide) (by decide) (by decide) (fun c_327 => ?_) (fun c_327 => absurd c_327 (by decide))
      refine lv_iload hx hb dL_law_332 (lv_at hl 1 rfl) ?_
      refine nv_if_ne (tgt := 349) hx hb dL_law_334 (by decide) (by decide) (fun c_334 => ?_) (fun c_334 => absurd c_334 (by decide))
      refine lv_goto (tgt := 1277) hx hb dL_law_349 (by decide) ?_
      refine W.widen (k := 108 + 8 * j) (n := 3064 + 64 * j) (by omega) (by omega) ?_
      exact hn u_ 1 H1 locs hok (by rw [hs]; exact hP) (by rw [hs]; exact hD) hS ls (lv_sub hl [2, 3, 4, 5, 6] rfl)
    · exact absurd f1 g1
  · rcases hw_316 with ⟨f1, f2, f3, f4⟩ | ⟨f1, f3⟩ | ⟨f1, f2, f3⟩
    · exact absurd f2 g2
    · exact absurd g1 f1
    · obtain ⟨rfl, hs3⟩ := Prod.mk.inj f3
      have hs : u_.1 = σ3 := g3.trans hs3.symm
      have hI3 : sI σ3 := by rw [← hs]; exact hok.1
      have hP : va_P dD vwCl ((xoW cI cR cS cL x0 b o0 u_) ++ mW cI m0 a 2 σ3) H1 := hP
      have hD : va_D (fun q => s.heap.size ≤ q) ((xoW cI cR cS cL x0 b o0 u_) ++ mW cI m0 a 2 σ3) := hD
      refine lv_istore (lv' := [(6, .int r_316), (5, .int (nI 2)), (0, .ref bq), (1, .ref x0), (2, .ref m0), (3, .ref o0), (4, .int (nI (5 * j)))]) hx hb dL_law_319 hl (by decide) rfl (fun ls hl => ?_)
      refine lv_aload_n hx hb dL_law_321 rfl (lv_at hl 4 rfl) ?_
      have hAH : ∀ q : Nat, H1.size ≤ q → s.heap.size ≤ q := fun q h => Nat.le_trans hS.1 h
      have hFc := fr_freeR (w1 := mW cI m0 a 2 σ3) (w2 := (xoW cI cR cS cL x0 b o0 u_)) hD hAH
      refine va_calli (va_runV (As := []) (rest := []) ⟨hx, hb, hml, hown, hts⟩ (c_X3_thrown l dD cI cR cS s.heap.size H1.size hS.1 m0 a 2 σ3 hI3 ) (cwV 0 hts gL_law_X3_thrown rfl rfl rfl (by decide +kernel) ⟨Nat.le_of_ble_eq_true rfl, Nat.le_of_ble_eq_true rfl⟩) (ePreV hE hS (vP_app2 (w1 := (xoW cI cR cS cL x0 b o0 u_)) hP) (k := 0) rfl rfl ⟨rfl, vP_app2 (w1 := (xoW cI cR cS cL x0 b o0 u_)) hP, vD_app2 (w1 := (xoW cI cR cS cL x0 b o0 u_)) hD⟩) rfl rfl hl.1 rfl (lv_room (Nat.le_of_ble_eq_true rfl)) dL_law_322 ⟨by simp only [room_1]; omega, by simp only [room_1]; omega⟩) hS (fun q _ h => hFc q h) hFc (fun r_322 u_322 t_ H1 locs ht_ hvm_ hw_322 hB_ hz_ hk_ hS => ?_)
      obtain ⟨hP, hD⟩ := fr_joinR (w1 := mW cI m0 a 2 σ3) (w1' := mW cI m0 a u_322.1 u_322.2) (w2 := (xoW cI cR cS cL x0 b o0 u_)) hP hD hAH hk_ (by rw [← ht_]; exact hB_) (va_D_fst (vD_app2 (w1 := (xoW cI cR cS cL x0 b o0 u_)) hD).self rfl)
      obtain ⟨f5, rfl⟩ := hw_322
      have hP : va_P dD vwCl ((xoW cI cR cS cL x0 b o0 u_) ++ mW cI m0 a 2 σ3) H1 := by rw [f5] at hP; exact hP
      have hD : va_D (fun q => s.heap.size ≤ q) ((xoW cI cR cS cL x0 b o0 u_) ++ mW cI m0 a 2 σ3) := by rw [f5] at hD; exact hD
      refine lv_iload hx hb dL_law_325 (lv_at hl 1 rfl) ?_
      refine nv_eq (tgt := 332) hx hb dL_law_327 (by decide) (by decide) (by decide) (fun c_327 => ?_) (fun c_327 => absurd c_327 (by decide))
      refine lv_iload hx hb dL_law_332 (lv_at hl 1 rfl) ?_
      refine nv_if_ne (tgt := 349) hx hb dL_law_334 (by decide) (by decide) (fun c_334 => ?_) (fun c_334 => absurd c_334 (by decide))
      refine lv_goto (tgt := 1277) hx hb dL_law_349 (by decide) ?_
      refine W.widen (k := 108 + 8 * j) (n := 3064 + 64 * j) (by omega) (by omega) ?_
      exact hn u_ 2 H1 locs hok (by rw [hs]; exact hP) (by rw [hs]; exact hD) hS ls (lv_sub hl [2, 3, 4, 5, 6] rfl)

set_option maxHeartbeats 4000000 in
set_option maxRecDepth 100000 in
theorem law_now {p : Program} {l : Launch} {e_ : Env} {s : State} {m : MethodId} {below : List Frame} {meth : Method} {c : Code} {bq L : Nat} {xs : Nat → Int32} (hL : L ≤ 2560) (C0 : lw_At p s m meth c bq L xs) (hfl : l.stackTraces = false) {dD : va_G} {cI cR cS cL : ClassId} (hE : eE dD cI cR cS s.heap.size s s.heap) (hKL : va_K dD vwCl [(cL, .long)] s) {x0 m0 o0 : Nat} {b a : Nat → Nat} {j : Nat} (hj : 5 * j + 5 ≤ L) (hn : lS p l e_ s m below meth c bq dD cI cR cS cL x0 m0 o0 b a j (108 + 8 * j) (3064 + 64 * j) 1277) : lS p l e_ s m below meth c bq dD cI cR cS cL x0 m0 o0 b a j (100 + 8 * j) (3000 + 64 * j) 352 := by
  obtain ⟨hx, hb, -, hml, hown, hts, hXs, hbl, hlocks, -⟩ := id C0
  have hown : s.vm.findClass RL = some m.cls := hown
  have hts : ∀ w ∈ wsL_law, w.before #[Value.ref bq] s = true := fun w h => hts w (wsL_law_in w h)
  have hbA : ¬ (fun q : Nat => s.heap.size ≤ q) bq := Nat.not_le.mpr hbl
  have hK := hE.1.1
  intro u th H locs hu hP hD hS ls hl
  obtain ⟨σ, ra, sb, hd, ol, out⟩ := u
  obtain ⟨hI, hX, hJ⟩ := hu
  have hI : sI σ := hI
  have hX : xI σ hd ol := hX
  have hJ : xJ σ hd ol := hJ
  have hP : va_P dD vwCl ((xoW cI cR cS cL x0 b o0 (σ, ra, sb, hd, ol, out)) ++ mW cI m0 a th σ) H := hP
  have hD : va_D (fun q => s.heap.size ≤ q) ((xoW cI cR cS cL x0 b o0 (σ, ra, sb, hd, ol, out)) ++ mW cI m0 a th σ) := hD
  refine lv_aload_n hx hb dL_law_352 rfl (lv_at hl 1 rfl) ?_
  refine vp_callSi (va_Run.run (va_runV (As := []) (rest := []) ⟨hx, hb, hml, hown, hts⟩ (c_X2_now l dD cI cR cS s.heap.size x0 b ra sb hd ol σ hI) (cwV 0 hts gL_law_X2_now rfl rfl rfl (by decide +kernel) ⟨Nat.le_of_ble_eq_true rfl, Nat.le_of_ble_eq_true rfl⟩) (ePreV hE hS hP (k := 1) rfl rfl (vP_app2 (w1 := [(o0, .inl (cL, 1, .inr (.inl out)))]) (vP_app1 hP))) rfl rfl hl.1 rfl (lv_room (Nat.le_of_ble_eq_true rfl)) dL_law_353 ⟨by simp only [room_1]; omega, by simp only [room_1]; omega⟩)) (fun r_353 hr_353 => ?_)
  subst hr_353
  refine lv_aload_n hx hb dL_law_356 rfl (lv_at hl 2 rfl) ?_
  have hAH : ∀ q : Nat, H.size ≤ q → s.heap.size ≤ q := fun q h => Nat.le_trans hS.1 h
  have hFc := fr_freeR (w1 := mW cI m0 a th σ) (w2 := (xoW cI cR cS cL x0 b o0 (σ, ra, sb, hd, ol, out))) hD hAH
  refine va_calli (va_runV (As := []) (rest := [.int (nI (s_now σ))]) ⟨hx, hb, hml, hown, hts⟩ (c_X3_now l dD cI cR cS s.heap.size H.size hS.1 m0 a th σ hI ) (cwV 0 hts gL_law_X3_now rfl rfl rfl (by decide +kernel) ⟨Nat.le_of_ble_eq_true rfl, Nat.le_of_ble_eq_true rfl⟩) (ePreV hE hS (vP_app2 (w1 := (xoW cI cR cS cL x0 b o0 (σ, ra, sb, hd, ol, out))) hP) (k := 0) rfl rfl ⟨rfl, vP_app2 (w1 := (xoW cI cR cS cL x0 b o0 (σ, ra, sb, hd, ol, out))) hP, vD_app2 (w1 := (xoW cI cR cS cL x0 b o0 (σ, ra, sb, hd, ol, out))) hD⟩) rfl rfl hl.1 rfl (lv_room (Nat.le_of_ble_eq_true rfl)) dL_law_357 ⟨by simp only [room_1]; omega, by simp only [room_1]; omega⟩) hS (fun q _ h => hFc q h) hFc (fun r_357 u_357 t_ H1 locs ht_ hvm_ hw_357 hB_ hz_ hk_ hS => ?_)
  obtain ⟨hP, hD⟩ := fr_joinR (w1 := mW cI m0 a th σ) (w1' := mW cI m0 a u_357.1 u_357.2) (w2 := (xoW cI cR cS cL x0 b o0 (σ, ra, sb, hd, ol, out))) hP hD hAH hk_ (by rw [← ht_]; exact hB_) (va_D_fst (vD_app2 (w1 := (xoW cI cR cS cL x0 b o0 (σ, ra, sb, hd, ol, out))) hD).self rfl)
  obtain ⟨f5, rfl⟩ := hw_357
  have hP : va_P dD vwCl ((xoW cI cR cS cL x0 b o0 (σ, ra, sb, hd, ol, out)) ++ mW cI m0 a 0 σ) H1 := by rw [f5] at hP; exact hP
  have hD : va_D (fun q => s.heap.size ≤ q) ((xoW cI cR cS cL x0 b o0 (σ, ra, sb, hd, ol, out)) ++ mW cI m0 a 0 σ) := by rw [f5] at hD; exact hD
  refine lv_icmp_eq (tgt := 1277) hx hb dL_law_360 (by decide) (fun c_360 => ?_) (fun c_360 => absurd rfl c_360)
  refine W.widen (k := 108 + 8 * j) (n := 3064 + 64 * j) (by omega) (by omega) ?_
  exact hn (σ, ra, sb, hd, ol, out) 0 H1 locs ⟨hI, hX, hJ⟩ hP hD hS ls (lv_sub hl [0, 1, 2, 3, 4] rfl)

set_option maxHeartbeats 4000000 in
set_option maxRecDepth 100000 in
theorem law_rows {p : Program} {l : Launch} {e_ : Env} {s : State} {m : MethodId} {below : List Frame} {meth : Method} {c : Code} {bq L : Nat} {xs : Nat → Int32} (hL : L ≤ 2560) (C0 : lw_At p s m meth c bq L xs) (hfl : l.stackTraces = false) {dD : va_G} {cI cR cS cL : ClassId} (hE : eE dD cI cR cS s.heap.size s s.heap) (hKL : va_K dD vwCl [(cL, .long)] s) {x0 m0 o0 : Nat} {b a : Nat → Nat} {j : Nat} (hj : 5 * j + 5 ≤ L) (hn : lS p l e_ s m below meth c bq dD cI cR cS cL x0 m0 o0 b a j (108 + 8 * j) (3064 + 64 * j) 1277) : lS p l e_ s m below meth c bq dD cI cR cS cL x0 m0 o0 b a j (100 + 8 * j) (3000 + 64 * j) 365 := by
  obtain ⟨hx, hb, -, hml, hown, hts, hXs, hbl, hlocks, -⟩ := id C0
  have hown : s.vm.findClass RL = some m.cls := hown
  have hts : ∀ w ∈ wsL_law, w.before #[Value.ref bq] s = true := fun w h => hts w (wsL_law_in w h)
  have hbA : ¬ (fun q : Nat => s.heap.size ≤ q) bq := Nat.not_le.mpr hbl
  have hK := hE.1.1
  intro u th H locs hu hP hD hS ls hl
  obtain ⟨σ, ra, sb, hd, ol, out⟩ := u
  obtain ⟨hI, hX, hJ⟩ := hu
  have hI : sI σ := hI
  have hX : xI σ hd ol := hX
  have hJ : xJ σ hd ol := hJ
  have hP : va_P dD vwCl ((xoW cI cR cS cL x0 b o0 (σ, ra, sb, hd, ol, out)) ++ mW cI m0 a th σ) H := hP
  have hD : va_D (fun q => s.heap.size ≤ q) ((xoW cI cR cS cL x0 b o0 (σ, ra, sb, hd, ol, out)) ++ mW cI m0 a th σ) := hD
  refine lv_aload_n hx hb dL_law_365 rfl (lv_at hl 1 rfl) ?_
  refine vp_callSi (va_Run.run (va_runV (As := []) (rest := []) ⟨hx, hb, hml, hown, hts⟩ (c_X2_rows l dD cI cR cS s.heap.size x0 b ra sb hd ol σ hI) (cwV 0 hts gL_law_X2_rows rfl rfl rfl (by decide +kernel) ⟨Nat.le_of_ble_eq_true rfl, Nat.le_of_ble_eq_true rfl⟩) (ePreV hE hS hP (k := 1) rfl rfl (vP_app2 (w1 := [(o0, .inl (cL, 1, .inr (.inl out)))]) (vP_app1 hP))) rfl rfl hl.1 rfl (lv_room (Nat.le_of_ble_eq_true rfl)) dL_law_366 ⟨by simp only [room_1]; omega, by simp only [room_1]; omega⟩)) (fun r_366 hr_366 => ?_)
  subst hr_366
  refine lv_aload_n hx hb dL_law_369 rfl (lv_at hl 2 rfl) ?_
  have hAH : ∀ q : Nat, H.size ≤ q → s.heap.size ≤ q := fun q h => Nat.le_trans hS.1 h
  have hFc := fr_freeR (w1 := mW cI m0 a th σ) (w2 := (xoW cI cR cS cL x0 b o0 (σ, ra, sb, hd, ol, out))) hD hAH
  refine va_calli (va_runV (As := []) (rest := [.int (nI (s_n σ))]) ⟨hx, hb, hml, hown, hts⟩ (c_X3_rows l dD cI cR cS s.heap.size H.size hS.1 m0 a th σ hI ) (cwV 0 hts gL_law_X3_rows rfl rfl rfl (by decide +kernel) ⟨Nat.le_of_ble_eq_true rfl, Nat.le_of_ble_eq_true rfl⟩) (ePreV hE hS (vP_app2 (w1 := (xoW cI cR cS cL x0 b o0 (σ, ra, sb, hd, ol, out))) hP) (k := 0) rfl rfl ⟨rfl, vP_app2 (w1 := (xoW cI cR cS cL x0 b o0 (σ, ra, sb, hd, ol, out))) hP, vD_app2 (w1 := (xoW cI cR cS cL x0 b o0 (σ, ra, sb, hd, ol, out))) hD⟩) rfl rfl hl.1 rfl (lv_room (Nat.le_of_ble_eq_true rfl)) dL_law_370 ⟨by simp only [room_1]; omega, by simp only [room_1]; omega⟩) hS (fun q _ h => hFc q h) hFc (fun r_370 u_370 t_ H1 locs ht_ hvm_ hw_370 hB_ hz_ hk_ hS => ?_)
  obtain ⟨hP, hD⟩ := fr_joinR (w1 := mW cI m0 a th σ) (w1' := mW cI m0 a u_370.1 u_370.2) (w2 := (xoW cI cR cS cL x0 b o0 (σ, ra, sb, hd, ol, out))) hP hD hAH hk_ (by rw [← ht_]; exact hB_) (va_D_fst (vD_app2 (w1 := (xoW cI cR cS cL x0 b o0 (σ, ra, sb, hd, ol, out))) hD).self rfl)
  obtain ⟨f5, rfl⟩ := hw_370
  have hP : va_P dD vwCl ((xoW cI cR cS cL x0 b o0 (σ, ra, sb, hd, ol, out)) ++ mW cI m0 a 0 σ) H1 := by rw [f5] at hP; exact hP
  have hD : va_D (fun q => s.heap.size ≤ q) ((xoW cI cR cS cL x0 b o0 (σ, ra, sb, hd, ol, out)) ++ mW cI m0 a 0 σ) := by rw [f5] at hD; exact hD
  refine lv_icmp_eq (tgt := 1277) hx hb dL_law_373 (by decide) (fun c_373 => ?_) (fun c_373 => absurd rfl c_373)
  refine W.widen (k := 108 + 8 * j) (n := 3064 + 64 * j) (by omega) (by omega) ?_
  exact hn (σ, ra, sb, hd, ol, out) 0 H1 locs ⟨hI, hX, hJ⟩ hP hD hS ls (lv_sub hl [0, 1, 2, 3, 4] rfl)

set_option maxHeartbeats 4000000 in
set_option maxRecDepth 100000 in
theorem law_value {p : Program} {l : Launch} {e_ : Env} {s : State} {m : MethodId} {below : List Frame} {meth : Method} {c : Code} {bq L : Nat} {xs : Nat → Int32} (hL : L ≤ 2560) (C0 : lw_At p s m meth c bq L xs) (hfl : l.stackTraces = false) {dD : va_G} {cI cR cS cL : ClassId} (hE : eE dD cI cR cS s.heap.size s s.heap) (hKL : va_K dD vwCl [(cL, .long)] s) {x0 m0 o0 : Nat} {b a : Nat → Nat} {j : Nat} (hj : 5 * j + 5 ≤ L) (hn : lS p l e_ s m below meth c bq dD cI cR cS cL x0 m0 o0 b a j (108 + 8 * j) (3064 + 64 * j) 1277) : lS p l e_ s m below meth c bq dD cI cR cS cL x0 m0 o0 b a j (100 + 8 * j) (3000 + 64 * j) 378 := by
  obtain ⟨hx, hb, -, hml, hown, hts, hXs, hbl, hlocks, -⟩ := id C0
  have hown : s.vm.findClass RL = some m.cls := hown
  have hts : ∀ w ∈ wsL_law, w.before #[Value.ref bq] s = true := fun w h => hts w (wsL_law_in w h)
  have hbA : ¬ (fun q : Nat => s.heap.size ≤ q) bq := Nat.not_le.mpr hbl
  have hK := hE.1.1
  intro u th H locs hu hP hD hS ls hl
  obtain ⟨σ, ra, sb, hd, ol, out⟩ := u
  obtain ⟨hI, hX, hJ⟩ := hu
  have hI : sI σ := hI
  have hX : xI σ hd ol := hX
  have hJ : xJ σ hd ol := hJ
  have hP : va_P dD vwCl ((xoW cI cR cS cL x0 b o0 (σ, ra, sb, hd, ol, out)) ++ mW cI m0 a th σ) H := hP
  have hD : va_D (fun q => s.heap.size ≤ q) ((xoW cI cR cS cL x0 b o0 (σ, ra, sb, hd, ol, out)) ++ mW cI m0 a th σ) := hD
  refine lv_aload_n hx hb dL_law_378 rfl (lv_at hl 1 rfl) ?_
  refine lv_aload_n hx hb dL_law_379 rfl (lv_at hl 0 rfl) ?_
  refine lv_iload hx hb dL_law_380 (lv_at hl 4 rfl) ?_
  refine lv_iconst (v := nI 1) hx hb dL_law_382 (by decide +kernel) ?_
  refine nv_iadd hx hb dL_law_383 ?_
  refine nv_sld hx hb hXs hbl hbA hS (by omega) (by omega) dL_law_384 ?_
  refine lv_aload_n hx hb dL_law_385 rfl (lv_at hl 3 rfl) ?_
  have hAH : ∀ q : Nat, H.size ≤ q → s.heap.size ≤ q := fun q h => Nat.le_trans hS.1 h
  have hFc := fr_free (w1 := (xoW cI cR cS cL x0 b o0 (σ, ra, sb, hd, ol, out))) (w2 := mW cI m0 a th σ) hD hAH
  refine va_calli (vx_runSW (As := [.ref x0, .int (xs ((5 * j) + 1)), .ref o0]) (rest := []) ⟨hx, hb, hml, hown, hts⟩ (c_L_value l dD cI cR cS s.heap.size cL hfl H.size hS.1 x0 b o0 ra sb hd ol σ out hI hX hJ (xs ((5 * j) + 1))) (vx_cwSW 3 hts gL_law_L_value rfl rfl rfl (by decide +kernel) ⟨Nat.le_of_ble_eq_true rfl, Nat.le_of_ble_eq_true rfl⟩) (lPreS hE hKL hS ⟨rfl, vP_app1 hP, vD_app1 hD⟩) rfl rfl hl.1 rfl (lv_room (Nat.le_of_ble_eq_true rfl)) dL_law_386 ⟨by simp only [room_1]; omega, by simp only [room_1]; omega⟩) hS (fun q _ h => hFc q h) hFc (fun r_ u_ t_ H1 locs ht_ hvm_ hw1 hB_ hz_ hk_ hS => ?_)
  obtain ⟨hP, hD⟩ := fr_join (w1 := (xoW cI cR cS cL x0 b o0 (σ, ra, sb, hd, ol, out))) (w1' := (xoW cI cR cS cL x0 b o0 u_)) (w2 := mW cI m0 a th σ) hP hD hAH hk_ (by rw [← ht_]; exact hB_.1) hB_.2
  obtain ⟨hw1, hok⟩ := hw1
  refine lv_istore (lv' := [(5, .int r_), (0, .ref bq), (1, .ref x0), (2, .ref m0), (3, .ref o0), (4, .int (nI (5 * j)))]) hx hb dL_law_389 hl (by decide) rfl (fun ls hl => ?_)
  refine lv_aload_n hx hb dL_law_391 rfl (lv_at hl 3 rfl) ?_
  refine lv_aload_n hx hb dL_law_392 rfl (lv_at hl 1 rfl) ?_
  refine lv_iload hx hb dL_law_393 (lv_at hl 5 rfl) ?_
  refine lv_iconst (v := nI 1) hx hb dL_law_395 (by decide +kernel) ?_
  refine nv_iadd hx hb dL_law_396 ?_
  refine nv_sld hx hb hXs hbl hbA hS (by omega) (by omega) dL_law_397 ?_
  have hAH : ∀ q : Nat, H1.size ≤ q → s.heap.size ≤ q := fun q h => Nat.le_trans hS.1 h
  have hFc := fr_freeR (w1 := mW cI m0 a th σ) (w2 := (xoW cI cR cS cL x0 b o0 u_)) hD hAH
  refine va_calli (va_runV (As := [.int (xs ((5 * j) + 1))]) (rest := []) ⟨hx, hb, hml, hown, hts⟩ (c_X3_value l dD cI cR cS s.heap.size H1.size hS.1 m0 a th σ hI (xs ((5 * j) + 1))) (cwV 1 hts gL_law_X3_value rfl rfl rfl (by decide +kernel) ⟨Nat.le_of_ble_eq_true rfl, Nat.le_of_ble_eq_true rfl⟩) (ePreV hE hS (vP_app2 (w1 := (xoW cI cR cS cL x0 b o0 u_)) hP) (k := 0) rfl rfl ⟨rfl, vP_app2 (w1 := (xoW cI cR cS cL x0 b o0 u_)) hP, vD_app2 (w1 := (xoW cI cR cS cL x0 b o0 u_)) hD⟩) rfl rfl hl.1 rfl (lv_room (Nat.le_of_ble_eq_true rfl)) dL_law_398 ⟨by simp only [room_1]; omega, by simp only [room_1]; omega⟩) hS (fun q _ h => hFc q h) hFc (fun r_398 u_398 t_ H1 locs ht_ hvm_ hw_398 hB_ hz_ hk_ hS => ?_)
  obtain ⟨hP, hD⟩ := fr_joinR (w1 := mW cI m0 a th σ) (w1' := mW cI m0 a u_398.1 u_398.2) (w2 := (xoW cI cR cS cL x0 b o0 u_)) hP hD hAH hk_ (by rw [← ht_]; exact hB_) (va_D_fst (vD_app2 (w1 := (xoW cI cR cS cL x0 b o0 u_)) hD).self rfl)
  obtain ⟨th3, σ3⟩ := u_398
  rcases hw1 with ⟨g1, g2, g3, rfl, g5⟩ | ⟨g1, g3, rfl⟩ | ⟨g1, g2, g3, rfl⟩
  · rcases hw_398 with ⟨f1, f2, f3, f4⟩ | ⟨f1, f3⟩ | ⟨f1, f2, f3⟩
    · obtain ⟨rfl, hs3⟩ := Prod.mk.inj f3
      have hs : u_.1 = σ3 := g3.trans hs3.symm
      have hI3 : sI σ3 := by rw [← hs]; exact hok.1
      have hP : va_P dD vwCl ((xoW cI cR cS cL x0 b o0 u_) ++ mW cI m0 a 0 σ3) H1 := hP
      have hD : va_D (fun q => s.heap.size ≤ q) ((xoW cI cR cS cL x0 b o0 u_) ++ mW cI m0 a 0 σ3) := hD
      have hout : u_.2.2.2.2.2 0 = (r_398).toInt64 := by rw [g5, f4]
      refine lv_istore (lv' := [(6, .int r_398), (5, .int (nI 0)), (0, .ref bq), (1, .ref x0), (2, .ref m0), (3, .ref o0), (4, .int (nI (5 * j)))]) hx hb dL_law_401 hl (by decide) rfl (fun ls hl => ?_)
      refine lv_aload_n hx hb dL_law_403 rfl (lv_at hl 4 rfl) ?_
      have hAH : ∀ q : Nat, H1.size ≤ q → s.heap.size ≤ q := fun q h => Nat.le_trans hS.1 h
      have hFc := fr_freeR (w1 := mW cI m0 a 0 σ3) (w2 := (xoW cI cR cS cL x0 b o0 u_)) hD hAH
      refine va_calli (va_runV (As := []) (rest := []) ⟨hx, hb, hml, hown, hts⟩ (c_X3_thrown l dD cI cR cS s.heap.size H1.size hS.1 m0 a 0 σ3 hI3 ) (cwV 0 hts gL_law_X3_thrown rfl rfl rfl (by decide +kernel) ⟨Nat.le_of_ble_eq_true rfl, Nat.le_of_ble_eq_true rfl⟩) (ePreV hE hS (vP_app2 (w1 := (xoW cI cR cS cL x0 b o0 u_)) hP) (k := 0) rfl rfl ⟨rfl, vP_app2 (w1 := (xoW cI cR cS cL x0 b o0 u_)) hP, vD_app2 (w1 := (xoW cI cR cS cL x0 b o0 u_)) hD⟩) rfl rfl hl.1 rfl (lv_room (Nat.le_of_ble_eq_true rfl)) dL_law_404 ⟨by simp only [room_1]; omega, by simp only [room_1]; omega⟩) hS (fun q _ h => hFc q h) hFc (fun r_404 u_404 t_ H1 locs ht_ hvm_ hw_404 hB_ hz_ hk_ hS => ?_)
      obtain ⟨hP, hD⟩ := fr_joinR (w1 := mW cI m0 a 0 σ3) (w1' := mW cI m0 a u_404.1 u_404.2) (w2 := (xoW cI cR cS cL x0 b o0 u_)) hP hD hAH hk_ (by rw [← ht_]; exact hB_) (va_D_fst (vD_app2 (w1 := (xoW cI cR cS cL x0 b o0 u_)) hD).self rfl)
      obtain ⟨f5, rfl⟩ := hw_404
      have hP : va_P dD vwCl ((xoW cI cR cS cL x0 b o0 u_) ++ mW cI m0 a 0 σ3) H1 := by rw [f5] at hP; exact hP
      have hD : va_D (fun q => s.heap.size ≤ q) ((xoW cI cR cS cL x0 b o0 u_) ++ mW cI m0 a 0 σ3) := by rw [f5] at hD; exact hD
      refine lv_iload hx hb dL_law_407 (lv_at hl 1 rfl) ?_
      refine nv_eq (tgt := 414) hx hb dL_law_409 (by decide) (by decide) (by decide) (fun c_409 => ?_) (fun c_409 => absurd c_409 (by decide))
      refine lv_iload hx hb dL_law_414 (lv_at hl 1 rfl) ?_
      refine nv_if_ne (tgt := 431) hx hb dL_law_416 (by decide) (by decide) (fun c_416 => absurd c_416 (by decide)) (fun c_416 => ?_)
      refine lv_aload_n hx hb dL_law_419 rfl (lv_at hl 5 rfl) ?_
      refine lv_iconst (v := nI 0) hx hb dL_law_420 (by decide +kernel) ?_
      refine va_lald hx hb hKL hP 0 0 rfl rfl (vp_in_nI (by decide) (by decide)) dL_law_421 ?_
      rw [show (nI 0).toNatClampNeg = 0 from by decide, hout]
      refine lv_iload hx hb dL_law_422 (lv_at hl 0 rfl) ?_
      refine lv_i2l (v := (r_398).toInt64) hx hb dL_law_424 rfl ?_
      refine W.lcmp hx hb dL_law_425 ?_
      rw [lg_self]
      refine lv_if_eq (tgt := 431) hx hb dL_law_426 (by decide) (fun c_426 => ?_) (fun c_426 => absurd rfl c_426)
      refine lv_goto (tgt := 1277) hx hb dL_law_431 (by decide) ?_
      refine W.widen (k := 108 + 8 * j) (n := 3064 + 64 * j) (by omega) (by omega) ?_
      exact hn u_ 0 H1 locs hok (by rw [hs]; exact hP) (by rw [hs]; exact hD) hS ls (lv_sub hl [2, 3, 4, 5, 6] rfl)
    · exact absurd g1 f1
    · exact absurd g2 f2
  · rcases hw_398 with ⟨f1, f2, f3, f4⟩ | ⟨f1, f3⟩ | ⟨f1, f2, f3⟩
    · exact absurd f1 g1
    · obtain ⟨rfl, hs3⟩ := Prod.mk.inj f3
      have hs : u_.1 = σ3 := g3.trans hs3.symm
      have hI3 : sI σ3 := by rw [← hs]; exact hok.1
      have hP : va_P dD vwCl ((xoW cI cR cS cL x0 b o0 u_) ++ mW cI m0 a 1 σ3) H1 := hP
      have hD : va_D (fun q => s.heap.size ≤ q) ((xoW cI cR cS cL x0 b o0 u_) ++ mW cI m0 a 1 σ3) := hD
      refine lv_istore (lv' := [(6, .int r_398), (5, .int (nI 1)), (0, .ref bq), (1, .ref x0), (2, .ref m0), (3, .ref o0), (4, .int (nI (5 * j)))]) hx hb dL_law_401 hl (by decide) rfl (fun ls hl => ?_)
      refine lv_aload_n hx hb dL_law_403 rfl (lv_at hl 4 rfl) ?_
      have hAH : ∀ q : Nat, H1.size ≤ q → s.heap.size ≤ q := fun q h => Nat.le_trans hS.1 h
      have hFc := fr_freeR (w1 := mW cI m0 a 1 σ3) (w2 := (xoW cI cR cS cL x0 b o0 u_)) hD hAH
      refine va_calli (va_runV (As := []) (rest := []) ⟨hx, hb, hml, hown, hts⟩ (c_X3_thrown l dD cI cR cS s.heap.size H1.size hS.1 m0 a 1 σ3 hI3 ) (cwV 0 hts gL_law_X3_thrown rfl rfl rfl (by decide +kernel) ⟨Nat.le_of_ble_eq_true rfl, Nat.le_of_ble_eq_true rfl⟩) (ePreV hE hS (vP_app2 (w1 := (xoW cI cR cS cL x0 b o0 u_)) hP) (k := 0) rfl rfl ⟨rfl, vP_app2 (w1 := (xoW cI cR cS cL x0 b o0 u_)) hP, vD_app2 (w1 := (xoW cI cR cS cL x0 b o0 u_)) hD⟩) rfl rfl hl.1 rfl (lv_room (Nat.le_of_ble_eq_true rfl)) dL_law_404 ⟨by simp only [room_1]; omega, by simp only [room_1]; omega⟩) hS (fun q _ h => hFc q h) hFc (fun r_404 u_404 t_ H1 locs ht_ hvm_ hw_404 hB_ hz_ hk_ hS => ?_)
      obtain ⟨hP, hD⟩ := fr_joinR (w1 := mW cI m0 a 1 σ3) (w1' := mW cI m0 a u_404.1 u_404.2) (w2 := (xoW cI cR cS cL x0 b o0 u_)) hP hD hAH hk_ (by rw [← ht_]; exact hB_) (va_D_fst (vD_app2 (w1 := (xoW cI cR cS cL x0 b o0 u_)) hD).self rfl)
      obtain ⟨f5, rfl⟩ := hw_404
      have hP : va_P dD vwCl ((xoW cI cR cS cL x0 b o0 u_) ++ mW cI m0 a 1 σ3) H1 := by rw [f5] at hP; exact hP
      have hD : va_D (fun q => s.heap.size ≤ q) ((xoW cI cR cS cL x0 b o0 u_) ++ mW cI m0 a 1 σ3) := by rw [f5] at hD; exact hD
      refine lv_iload hx hb dL_law_407 (lv_at hl 1 rfl) ?_
      refine nv_eq (tgt := 414) hx hb dL_law_409 (by decide) (by decide) (by decide) (fun c_409 => ?_) (fun c_409 => absurd c_409 (by decide))
      refine lv_iload hx hb dL_law_414 (lv_at hl 1 rfl) ?_
      refine nv_if_ne (tgt := 431) hx hb dL_law_416 (by decide) (by decide) (fun c_416 => ?_) (fun c_416 => absurd c_416 (by decide))
      refine lv_goto (tgt := 1277) hx hb dL_law_431 (by decide) ?_
      refine W.widen (k := 108 + 8 * j) (n := 3064 + 64 * j) (by omega) (by omega) ?_
      exact hn u_ 1 H1 locs hok (by rw [hs]; exact hP) (by rw [hs]; exact hD) hS ls (lv_sub hl [2, 3, 4, 5, 6] rfl)
    · exact absurd f1 g1
  · rcases hw_398 with ⟨f1, f2, f3, f4⟩ | ⟨f1, f3⟩ | ⟨f1, f2, f3⟩
    · exact absurd f2 g2
    · exact absurd g1 f1
    · obtain ⟨rfl, hs3⟩ := Prod.mk.inj f3
      have hs : u_.1 = σ3 := g3.trans hs3.symm
      have hI3 : sI σ3 := by rw [← hs]; exact hok.1
      have hP : va_P dD vwCl ((xoW cI cR cS cL x0 b o0 u_) ++ mW cI m0 a 2 σ3) H1 := hP
      have hD : va_D (fun q => s.heap.size ≤ q) ((xoW cI cR cS cL x0 b o0 u_) ++ mW cI m0 a 2 σ3) := hD
      refine lv_istore (lv' := [(6, .int r_398), (5, .int (nI 2)), (0, .ref bq), (1, .ref x0), (2, .ref m0), (3, .ref o0), (4, .int (nI (5 * j)))]) hx hb dL_law_401 hl (by decide) rfl (fun ls hl => ?_)
      refine lv_aload_n hx hb dL_law_403 rfl (lv_at hl 4 rfl) ?_
      have hAH : ∀ q : Nat, H1.size ≤ q → s.heap.size ≤ q := fun q h => Nat.le_trans hS.1 h
      have hFc := fr_freeR (w1 := mW cI m0 a 2 σ3) (w2 := (xoW cI cR cS cL x0 b o0 u_)) hD hAH
      refine va_calli (va_runV (As := []) (rest := []) ⟨hx, hb, hml, hown, hts⟩ (c_X3_thrown l dD cI cR cS s.heap.size H1.size hS.1 m0 a 2 σ3 hI3 ) (cwV 0 hts gL_law_X3_thrown rfl rfl rfl (by decide +kernel) ⟨Nat.le_of_ble_eq_true rfl, Nat.le_of_ble_eq_true rfl⟩) (ePreV hE hS (vP_app2 (w1 := (xoW cI cR cS cL x0 b o0 u_)) hP) (k := 0) rfl rfl ⟨rfl, vP_app2 (w1 := (xoW cI cR cS cL x0 b o0 u_)) hP, vD_app2 (w1 := (xoW cI cR cS cL x0 b o0 u_)) hD⟩) rfl rfl hl.1 rfl (lv_room (Nat.le_of_ble_eq_true rfl)) dL_law_404 ⟨by simp only [room_1]; omega, by simp only [room_1]; omega⟩) hS (fun q _ h => hFc q h) hFc (fun r_404 u_404 t_ H1 locs ht_ hvm_ hw_404 hB_ hz_ hk_ hS => ?_)
      obtain ⟨hP, hD⟩ := fr_joinR (w1 := mW cI m0 a 2 σ3) (w1' := mW cI m0 a u_404.1 u_404.2) (w2 := (xoW cI cR cS cL x0 b o0 u_)) hP hD hAH hk_ (by rw [← ht_]; exact hB_) (va_D_fst (vD_app2 (w1 := (xoW cI cR cS cL x0 b o0 u_)) hD).self rfl)
      obtain ⟨f5, rfl⟩ := hw_404
      have hP : va_P dD vwCl ((xoW cI cR cS cL x0 b o0 u_) ++ mW cI m0 a 2 σ3) H1 := by rw [f5] at hP; exact hP
      have hD : va_D (fun q => s.heap.size ≤ q) ((xoW cI cR cS cL x0 b o0 u_) ++ mW cI m0 a 2 σ3) := by rw [f5] at hD; exact hD
      refine lv_iload hx hb dL_law_407 (lv_at hl 1 rfl) ?_
      refine nv_eq (tgt := 414) hx hb dL_law_409 (by decide) (by decide) (by decide) (fun c_409 => ?_) (fun c_409 => absurd c_409 (by decide))
      refine lv_iload hx hb dL_law_414 (lv_at hl 1 rfl) ?_
      refine nv_if_ne (tgt := 431) hx hb dL_law_416 (by decide) (by decide) (fun c_416 => ?_) (fun c_416 => absurd c_416 (by decide))
      refine lv_goto (tgt := 1277) hx hb dL_law_431 (by decide) ?_
      refine W.widen (k := 108 + 8 * j) (n := 3064 + 64 * j) (by omega) (by omega) ?_
      exact hn u_ 2 H1 locs hok (by rw [hs]; exact hP) (by rw [hs]; exact hD) hS ls (lv_sub hl [2, 3, 4, 5, 6] rfl)
