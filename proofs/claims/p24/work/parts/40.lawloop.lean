/-! the law's loop (laid by wip/p24/gen/law24.py) -/
set_option maxHeartbeats 4000000 in
set_option maxRecDepth 100000 in
/-- from the loop's head, with j turns behind it -/
theorem law_loop {p : Program} {l : Launch} {e_ : Env} {s : State} {m : MethodId} {below : List Frame} {meth : Method} {c : Code} {bq L : Nat} {xs : Nat → Int32} (hL0 : L ≤ 260) (C0 : lw_At p s m meth c bq L xs) (hfl : l.stackTraces = false) {dD : va_G} {cI cR cS : ClassId} (hE : eE dD cI cR cS s.heap.size s s.heap) {la : Nat → Nat} {x0 : Nat} {b : Nat → Nat} : ∀ (d j : Nat), j ≤ 100 → 100 < j + d → ∀ (u : XV) (H : Heap) (locs : List Loc), vOk u → va_P dD vwCl (lxW cI cR cS la x0 b u) H → va_D (fun q => s.heap.size ≤ q) (lxW cI cR cS la x0 b u) → va_S (fun q => s.heap.size ≤ q) s.heap H locs →
    ∀ (ls : Array Slot), lv_has ls 14 [(0, .ref bq), (1, .ref x0), (2, .ref (la 0)), (3, .ref (la 1)), (4, .ref (la 2)), (5, .ref (la 3)), (6, .ref (la 4)), (7, .ref (la 5)), (8, .ref (la 6)), (9, .ref (la 7)), (10, .int (nI j))] → W p l e_ room_1 s m #[Value.ref bq] below meth c H locs (600 + 560 * j) (5000 + 3400 * j) (lw_Z below #[Value.ref bq] s) (F0 m 105 ls []) := by
  intro d
  induction d with
  | zero =>
    intro j h1 h2
    exact absurd h2 (by omega)
  | succ d ih =>
    intro j h1 h2 u H locs hu hP hD hS ls hl
    obtain ⟨σ, ra, sb, hd, ol⟩ := u
    obtain ⟨hI, hX, hJ, hL⟩ := hu
    have hI : sI σ := hI
    have hX : xI σ hd ol := hX
    have hJ : xJ σ hd ol := hJ
    have hL : lI σ := hL
    have hP : va_P dD vwCl (lW cI la σ ++ xW cI cR cS x0 b ra sb hd ol σ) H := hP
    have hD : va_D (fun q => s.heap.size ≤ q) (lW cI la σ ++ xW cI cR cS x0 b ra sb hd ol σ) := hD
    obtain ⟨hx, hb, hr, hml, hown, hts, hXs, hbl, hlocks, -⟩ := id C0
    have hown : s.vm.findClass RL = some m.cls := hown
    have hts : ∀ w ∈ wsL_law, w.before #[Value.ref bq] s = true := fun w h => hts w (wsL_law_in w h)
    refine lv_iload hx hb dL_law_105 (lv_at hl 10 rfl) ?_
    refine lv_bipush (v := nI 100) hx hb dL_law_107 (by decide +kernel) ?_
    refine nv_ge (tgt := 221) hx hb dL_law_109 (by decide) (by omega) (by omega) (fun c_109 => ?_) (fun c_109 => ?_)
    · refine lv_iconst (v := 1) hx hb dL_law_221 (by decide) ?_
      refine va_forget (fun q hq => hS.2.2 q hq) ?_
      refine W.widen (k := 669080) (n := 7094384) (by omega) (by omega) ?_
      exact lw_ret hx hb hr hlocks dL_law_222
    · refine lv_aload_n hx hb dL_law_112 rfl (lv_at hl 0 rfl) ?_
      refine lv_iconst (v := nI 3) hx hb dL_law_113 (by decide +kernel) ?_
      refine lv_iload hx hb dL_law_114 (lv_at hl 10 rfl) ?_
      refine nv_imul hx hb dL_law_116 ?_
      refine vp_callSi (va_Run.run (va_runS (As := [.ref bq, .int (nI (3 * j))]) (rest := []) ⟨hx, hb, hml, hown, hts⟩ (c_L_cell l bq L (3 * j) xs hL0 (by omega)) (va_cwS 2 hts gL_law_L_cell rfl rfl rfl (by decide +kernel) ⟨Nat.le_of_ble_eq_true rfl, Nat.le_of_ble_eq_true rfl⟩) (cell_pre hXs hbl hS) rfl rfl hl.1 rfl (lv_room (Nat.le_of_ble_eq_true rfl)) dL_law_117 ⟨by show 600 + 560 * j + 0 ≤ 669080; omega, by show 5000 + 3400 * j + 0 ≤ 7094384; omega⟩)) (fun x_117 _ => ?_)
      refine lv_istore (lv' := [(11, .int x_117), (0, .ref bq), (1, .ref x0), (2, .ref (la 0)), (3, .ref (la 1)), (4, .ref (la 2)), (5, .ref (la 3)), (6, .ref (la 4)), (7, .ref (la 5)), (8, .ref (la 6)), (9, .ref (la 7)), (10, .int (nI j))]) hx hb dL_law_120 hl (by decide) rfl (fun ls hl => ?_)
      refine lv_aload_n hx hb dL_law_122 rfl (lv_at hl 1 rfl) ?_
      refine lv_iconst (v := nI 3) hx hb dL_law_123 (by decide +kernel) ?_
      refine lv_iload hx hb dL_law_124 (lv_at hl 11 rfl) ?_
      refine nv_imul hx hb dL_law_126 ?_
      refine lv_iconst (v := nI 1) hx hb dL_law_127 (by decide +kernel) ?_
      refine nv_iadd hx hb dL_law_128 ?_
      refine vp_callSi (va_Run.run (va_runS (As := [.ref bq, .int (nI ((3 * j) + 1))]) (rest := []) ⟨hx, hb, hml, hown, hts⟩ (c_L_cell l bq L ((3 * j) + 1) xs hL0 (by omega)) (va_cwS 2 hts gL_law_L_cell rfl rfl rfl (by decide +kernel) ⟨Nat.le_of_ble_eq_true rfl, Nat.le_of_ble_eq_true rfl⟩) (cell_pre hXs hbl hS) rfl rfl hl.1 rfl (lv_room (Nat.le_of_ble_eq_true rfl)) dL_law_129 ⟨by show 600 + 560 * j + 0 ≤ 669080; omega, by show 5000 + 3400 * j + 0 ≤ 7094384; omega⟩)) (fun x_129 _ => ?_)
      refine lv_istore (lv' := [(12, .int x_129), (11, .int x_117), (0, .ref bq), (1, .ref x0), (2, .ref (la 0)), (3, .ref (la 1)), (4, .ref (la 2)), (5, .ref (la 3)), (6, .ref (la 4)), (7, .ref (la 5)), (8, .ref (la 6)), (9, .ref (la 7)), (10, .int (nI j))]) hx hb dL_law_132 hl (by decide) rfl (fun ls hl => ?_)
      refine lv_aload_n hx hb dL_law_134 rfl (lv_at hl 2 rfl) ?_
      refine lv_iconst (v := nI 3) hx hb dL_law_135 (by decide +kernel) ?_
      refine lv_iload hx hb dL_law_136 (lv_at hl 12 rfl) ?_
      refine nv_imul hx hb dL_law_138 ?_
      refine lv_iconst (v := nI 2) hx hb dL_law_139 (by decide +kernel) ?_
      refine nv_iadd hx hb dL_law_140 ?_
      refine vp_callSi (va_Run.run (va_runS (As := [.ref bq, .int (nI ((3 * j) + 2))]) (rest := []) ⟨hx, hb, hml, hown, hts⟩ (c_L_cell l bq L ((3 * j) + 2) xs hL0 (by omega)) (va_cwS 2 hts gL_law_L_cell rfl rfl rfl (by decide +kernel) ⟨Nat.le_of_ble_eq_true rfl, Nat.le_of_ble_eq_true rfl⟩) (cell_pre hXs hbl hS) rfl rfl hl.1 rfl (lv_room (Nat.le_of_ble_eq_true rfl)) dL_law_141 ⟨by show 600 + 560 * j + 0 ≤ 669080; omega, by show 5000 + 3400 * j + 0 ≤ 7094384; omega⟩)) (fun x_141 _ => ?_)
      refine lv_istore (lv' := [(13, .int x_141), (12, .int x_129), (11, .int x_117), (0, .ref bq), (1, .ref x0), (2, .ref (la 0)), (3, .ref (la 1)), (4, .ref (la 2)), (5, .ref (la 3)), (6, .ref (la 4)), (7, .ref (la 5)), (8, .ref (la 6)), (9, .ref (la 7)), (10, .int (nI j))]) hx hb dL_law_144 hl (by decide) rfl (fun ls hl => ?_)
      refine lv_aload_n hx hb dL_law_146 rfl (lv_at hl 4 rfl) ?_
      refine lv_iload hx hb dL_law_147 (lv_at hl 2 rfl) ?_
      refine lv_bipush (v := nI 18) hx hb dL_law_149 (by decide +kernel) ?_
      refine vp_callSi (va_Run.run (va_runS (As := [.int x_117, .int (nI 18)]) (rest := [.ref x0]) ⟨hx, hb, hml, hown, hts⟩ (c_L_low l dD cI cR cS s.heap.size x_117 18 (by decide) (by decide)) (va_cwS 2 hts gL_law_L_low rfl rfl rfl (by decide +kernel) ⟨Nat.le_of_ble_eq_true rfl, Nat.le_of_ble_eq_true rfl⟩) (ePreS hE hS trivial) rfl rfl hl.1 rfl (lv_room (Nat.le_of_ble_eq_true rfl)) dL_law_151 ⟨by show 600 + 560 * j + 0 ≤ 669080; omega, by show 5000 + 3400 * j + 0 ≤ 7094384; omega⟩)) (fun r_151 hr_151 => ?_)
      obtain ⟨ac, hac, rfl⟩ := hr_151
      refine lv_iload hx hb dL_law_154 (lv_at hl 1 rfl) ?_
      refine lv_iload hx hb dL_law_156 (lv_at hl 0 rfl) ?_
      refine lv_aload_n hx hb dL_law_158 rfl (lv_at hl 5 rfl) ?_
      refine lv_aload_n hx hb dL_law_159 rfl (lv_at hl 6 rfl) ?_
      refine lv_aload hx hb dL_law_160 (lv_at hl 7 rfl) ?_
      refine lv_aload hx hb dL_law_162 (lv_at hl 8 rfl) ?_
      refine lv_aload hx hb dL_law_164 (lv_at hl 9 rfl) ?_
      refine lv_aload hx hb dL_law_166 (lv_at hl 10 rfl) ?_
      refine lv_aload hx hb dL_law_168 (lv_at hl 11 rfl) ?_
      refine lv_aload hx hb dL_law_170 (lv_at hl 12 rfl) ?_
      have hFc : ∀ q, va_A (lW cI la σ ++ xW cI cR cS x0 b ra sb hd ol σ) H.size q → s.heap.size ≤ q := eA_lo hD hS.1
      refine va_calli (va_runS (As := [.ref x0, .int (nI ac), .int x_129, .int x_141, .ref (la 0), .ref (la 1), .ref (la 2), .ref (la 3), .ref (la 4), .ref (la 5), .ref (la 6), .ref (la 7)]) (rest := []) ⟨hx, hb, hml, hown, hts⟩ (c_L_keeps l dD cI cR cS s.heap.size hfl H.size hS.1 la x0 b ra sb hd ol σ hI hX hJ hL ac hac x_129 x_141) (va_cwS 12 hts gL_law_L_keeps rfl rfl rfl (by decide +kernel) ⟨Nat.le_of_ble_eq_true rfl, Nat.le_of_ble_eq_true rfl⟩) (ePreS hE hS ⟨rfl, hP, hD⟩) rfl rfl hl.1 rfl (lv_room (Nat.le_of_ble_eq_true rfl)) dL_law_172 ⟨by show 600 + 560 * j + 60 ≤ 669080; omega, by show 5000 + 3400 * j + 400 ≤ 7094384; omega⟩) hS (fun q _ h => hFc q h) hFc (fun r_ u_ t_ H1 locs ht_ hvm_ hw_ hB_ hz_ hk_ hS => ?_)
      obtain ⟨σ, ra, sb, hd, ol⟩ := u_
      obtain ⟨hr_, hI, hX, hJ, hL⟩ := hw_
      subst hr_
      have hI : sI σ := hI
      have hX : xI σ hd ol := hX
      have hJ : xJ σ hd ol := hJ
      have hL : lI σ := hL
      have hP : va_P dD vwCl (lW cI la σ ++ xW cI cR cS x0 b ra sb hd ol σ) H1 := by rw [← ht_]; exact hB_.1
      have hD : va_D (fun q => s.heap.size ≤ q) (lW cI la σ ++ xW cI cR cS x0 b ra sb hd ol σ) := vD_mono hB_.2 hFc
      refine nv_if_eq (tgt := 213) hx hb dL_law_175 (by decide) (by decide) (fun c_175 => absurd c_175 (by decide)) (fun c_175 => ?_)
      refine lv_aload_n hx hb dL_law_178 rfl (lv_at hl 4 rfl) ?_
      refine lv_iload hx hb dL_law_179 (lv_at hl 2 rfl) ?_
      refine lv_iconst (v := nI 5) hx hb dL_law_181 (by decide +kernel) ?_
      refine lv_ishr hx hb dL_law_182 ?_
      refine lv_iload hx hb dL_law_183 (lv_at hl 1 rfl) ?_
      refine lv_ixor hx hb dL_law_185 ?_
      refine lv_iload hx hb dL_law_186 (lv_at hl 0 rfl) ?_
      refine lv_iload hx hb dL_law_188 (lv_at hl 1 rfl) ?_
      refine lv_iconst (v := nI 3) hx hb dL_law_190 (by decide +kernel) ?_
      refine lv_ishr hx hb dL_law_191 ?_
      refine lv_ixor hx hb dL_law_192 ?_
      refine lv_aload_n hx hb dL_law_193 rfl (lv_at hl 5 rfl) ?_
      refine lv_aload_n hx hb dL_law_194 rfl (lv_at hl 6 rfl) ?_
      refine lv_aload hx hb dL_law_195 (lv_at hl 7 rfl) ?_
      refine lv_aload hx hb dL_law_197 (lv_at hl 8 rfl) ?_
      refine lv_aload hx hb dL_law_199 (lv_at hl 9 rfl) ?_
      refine lv_aload hx hb dL_law_201 (lv_at hl 10 rfl) ?_
      refine lv_aload hx hb dL_law_203 (lv_at hl 11 rfl) ?_
      refine lv_aload hx hb dL_law_205 (lv_at hl 12 rfl) ?_
      refine nx_callKv (v := nI 1) (va_runS (As := [.ref x0, .int (((x_117 >>> ((nI 5) &&& 31))) ^^^ x_129), .int (x_141 ^^^ ((x_129 >>> ((nI 3) &&& 31)))), .ref (la 0), .ref (la 1), .ref (la 2), .ref (la 3), .ref (la 4), .ref (la 5), .ref (la 6), .ref (la 7)]) (rest := []) ⟨hx, hb, hml, hown, hts⟩ (c_L_isTold l dD cI cR cS s.heap.size hfl la x0 b ra sb hd ol σ hI hX hL (((x_117 >>> ((nI 5) &&& 31))) ^^^ x_129) (x_141 ^^^ ((x_129 >>> ((nI 3) &&& 31))))) (va_cwS 11 hts gL_law_L_isTold rfl rfl rfl (by decide +kernel) ⟨Nat.le_of_ble_eq_true rfl, Nat.le_of_ble_eq_true rfl⟩) (ePreS hE hS hP) rfl rfl hl.1 rfl (lv_room (Nat.le_of_ble_eq_true rfl)) dL_law_207 ⟨by show 600 + 560 * j + 60 + 500 ≤ 669080; omega, by show 5000 + 3400 * j + 400 + 3000 ≤ 7094384; omega⟩) (fun r h => h) (fun H1 hk_207 => ?_)
      have hP := hk_207.P hP
      have hS := hk_207.up hS
      refine nv_if_ne (tgt := 215) hx hb dL_law_210 (by decide) (by decide) (fun c_210 => ?_) (fun c_210 => absurd c_210 (by decide))
      refine lv_iinc (v := nI (j + 1)) (lv' := [(10, .int (nI (j + 1))), (13, .int x_141), (12, .int x_129), (11, .int x_117), (0, .ref bq), (1, .ref x0), (2, .ref (la 0)), (3, .ref (la 1)), (4, .ref (la 2)), (5, .ref (la 3)), (6, .ref (la 4)), (7, .ref (la 5)), (8, .ref (la 6)), (9, .ref (la 7))]) hx hb dL_law_215 hl (k := 13) rfl (nv_inc _ 1) (by decide) rfl (fun ls hl => ?_)
      refine lv_goto (tgt := 105) hx hb dL_law_218 (by decide) ?_
      refine W.widen (k := 600 + 560 * (j + 1)) (n := 5000 + 3400 * (j + 1)) (by omega) (by omega) ?_
      exact ih (j + 1) (by omega) (by omega) (σ, ra, sb, hd, ol) _ _ ⟨hI, hX, hJ, hL⟩ hP hD hS ls (lv_sub hl [4, 5, 6, 7, 8, 9, 10, 11, 12, 13, 0] rfl)
