/-! the law's loop, and its beginning (laid by wip/whole/gen/lawloop.py) -/
set_option maxHeartbeats 4000000 in
set_option maxRecDepth 100000 in
/-- from the loop's head, with j calls behind it -/
theorem law_loop {p : Program} {l : Launch} {e_ : Env} {s : State} {m : MethodId} {below : List Frame} {meth : Method} {c : Code} {bq L : Nat} {xs : Nat → Int32} (hL : L ≤ 2560) (C0 : lw_At p s m meth c bq L xs) (hfl : l.stackTraces = false) {dD : va_G} {cI cR cS cL : ClassId} (hE : eE dD cI cR cS s.heap.size s s.heap) (hKL : va_K dD vwCl [(cL, .long)] s) {x0 m0 o0 : Nat} {b a : Nat → Nat} : ∀ (d j : Nat), 5 * j ≤ L → L < 5 * (j + d) → lS p l e_ s m below meth c bq dD cI cR cS cL x0 m0 o0 b a j (100 + 8 * j) (3000 + 64 * j) 23 := by
  intro d
  induction d with
  | zero =>
    intro j h1 h2
    exact absurd h2 (by omega)
  | succ d ih =>
    intro j h1 h2
    obtain ⟨hx, hb, hr, hml, hown, hts, hXs, hbl, hlocks, -⟩ := id C0
    have hbA : ¬ (fun q : Nat => s.heap.size ≤ q) bq := Nat.not_le.mpr hbl
    have hnext : 5 * j + 5 ≤ L → lS p l e_ s m below meth c bq dD cI cR cS cL x0 m0 o0 b a j (108 + 8 * j) (3064 + 64 * j) 1277 := by
      intro hj u th H locs hu hP hD hS ls hl
      refine lv_iinc (v := nI (5 * j + 5)) (lv' := [(4, .int (nI (5 * j + 5))), (0, .ref bq), (1, .ref x0), (2, .ref m0), (3, .ref o0)]) hx hb dL_law_1277 hl (k := 4) rfl (nv_inc _ 5) (by decide) rfl (fun ls hl => ?_)
      refine lv_goto (tgt := 23) hx hb dL_law_1280 (by decide) ?_
      refine W.widen (k := 100 + 8 * (j + 1)) (n := 3000 + 64 * (j + 1)) (by omega) (by omega) ?_
      exact ih (j + 1) (by omega) (by omega) u th H locs hu hP hD hS ls (lv_sub hl [1, 2, 3, 4, 0] rfl)
    intro u th H locs hu hP hD hS ls hl
    refine lv_iload hx hb dL_law_23 (lv_at hl 4 rfl) ?_
    refine lv_aload_n hx hb dL_law_25 rfl (lv_at hl 0 rfl) ?_
    refine va_slen hx hb hXs hbl hbA hS dL_law_26 ?_
    refine lv_iconst (v := nI 5) hx hb dL_law_27 (by decide +kernel) ?_
    refine lv_isub hx hb dL_law_28 ?_
    refine lv_icmp_gt (tgt := 1283) hx hb dL_law_29 (by decide) (fun c_29 => ?_) (fun c_29 => ?_)
    · refine lv_iconst (v := 1) hx hb dL_law_1283 (by decide) ?_
      refine va_forget (fun q hq => hS.2.2 q hq) ?_
      refine W.widen (k := 601024) (n := 7293034) (by omega) (by omega) ?_
      exact lw_ret hx hb hr hlocks dL_law_1284
    · have hj : 5 * j + 5 ≤ L := Nat.not_lt.mp (fun z => c_29 ((len_cmp (by omega) (by omega)).mpr z))
      refine lv_aload_n hx hb dL_law_32 rfl (lv_at hl 0 rfl) ?_
      refine lv_iload hx hb dL_law_33 (lv_at hl 4 rfl) ?_
      refine nv_sld hx hb hXs hbl hbA hS (by omega) (by omega) dL_law_35 ?_
      refine lv_bipush (v := nI 31) hx hb dL_law_36 (by decide +kernel) ?_
      refine lv_iand hx hb dL_law_38 ?_
      obtain ⟨k, hk, ek⟩ := pk_andE (xs (5 * j)) (m := nI 31) 5 (by decide)
      rw [ek]
      have h22 : k = 0 ∨ k = 1 ∨ k = 2 ∨ k = 3 ∨ k = 4 ∨ k = 5 ∨ k = 6 ∨ k = 7 ∨ k = 8 ∨ k = 9 ∨ k = 10 ∨ k = 11 ∨ k = 12 ∨ k = 13 ∨ k = 14 ∨ k = 15 ∨ k = 16 ∨ k = 17 ∨ k = 18 ∨ k = 19 ∨ k = 20 ∨ 21 ≤ k := by omega
      rcases h22 with rfl | rfl | rfl | rfl | rfl | rfl | rfl | rfl | rfl | rfl | rfl | rfl | rfl | rfl | rfl | rfl | rfl | rfl | rfl | rfl | rfl | h21
      · exact lv_tableIn (off := 97) (tgt := 136) hx hb dL_law_39 (by decide) (by decide) (by decide +kernel) (by decide) (law_arrive hL C0 hfl hE hKL hj (hnext hj) u th H locs hu hP hD hS ls hl)
      · exact lv_tableIn (off := 189) (tgt := 228) hx hb dL_law_39 (by decide) (by decide) (by decide +kernel) (by decide) (law_pass hL C0 hfl hE hKL hj (hnext hj) u th H locs hu hP hD hS ls hl)
      · exact lv_tableIn (off := 245) (tgt := 284) hx hb dL_law_39 (by decide) (by decide) (by decide +kernel) (by decide) (law_setLifetime hL C0 hfl hE hKL hj (hnext hj) u th H locs hu hP hD hS ls hl)
      · exact lv_tableIn (off := 313) (tgt := 352) hx hb dL_law_39 (by decide) (by decide) (by decide +kernel) (by decide) (law_now hL C0 hfl hE hKL hj (hnext hj) u th H locs hu hP hD hS ls hl)
      · exact lv_tableIn (off := 326) (tgt := 365) hx hb dL_law_39 (by decide) (by decide) (by decide +kernel) (by decide) (law_rows hL C0 hfl hE hKL hj (hnext hj) u th H locs hu hP hD hS ls hl)
      · exact lv_tableIn (off := 339) (tgt := 378) hx hb dL_law_39 (by decide) (by decide) (by decide +kernel) (by decide) (law_value hL C0 hfl hE hKL hj (hnext hj) u th H locs hu hP hD hS ls hl)
      · exact lv_tableIn (off := 395) (tgt := 434) hx hb dL_law_39 (by decide) (by decide) (by decide +kernel) (by decide) (law_late hL C0 hfl hE hKL hj (hnext hj) u th H locs hu hP hD hS ls hl)
      · exact lv_tableIn (off := 451) (tgt := 490) hx hb dL_law_39 (by decide) (by decide) (by decide +kernel) (by decide) (law_join hL C0 hfl hE hKL hj (hnext hj) u th H locs hu hP hD hS ls hl)
      · exact lv_tableIn (off := 543) (tgt := 582) hx hb dL_law_39 (by decide) (by decide) (by decide +kernel) (by decide) (law_window hL C0 hfl hE hKL hj (hnext hj) u th H locs hu hP hD hS ls hl)
      · exact lv_tableIn (off := 635) (tgt := 674) hx hb dL_law_39 (by decide) (by decide) (by decide +kernel) (by decide) (law_greatestTile hL C0 hfl hE hKL hj (hnext hj) u th H locs hu hP hD hS ls hl)
      · exact lv_tableIn (off := 715) (tgt := 754) hx hb dL_law_39 (by decide) (by decide) (by decide +kernel) (by decide) (law_tiles hL C0 hfl hE hKL hj (hnext hj) u th H locs hu hP hD hS ls hl)
      · exact lv_tableIn (off := 795) (tgt := 834) hx hb dL_law_39 (by decide) (by decide) (by decide +kernel) (by decide) (law_revised hL C0 hfl hE hKL hj (hnext hj) u th H locs hu hP hD hS ls hl)
      · exact lv_tableIn (off := 875) (tgt := 914) hx hb dL_law_39 (by decide) (by decide) (by decide +kernel) (by decide) (law_take hL C0 hfl hE hKL hj (hnext hj) u th H locs hu hP hD hS ls hl)
      · exact lv_tableIn (off := 931) (tgt := 970) hx hb dL_law_39 (by decide) (by decide) (by decide +kernel) (by decide) (law_lag hL C0 hfl hE hKL hj (hnext hj) u th H locs hu hP hD hS ls hl)
      · exact lv_tableIn (off := 944) (tgt := 983) hx hb dL_law_39 (by decide) (by decide) (by decide +kernel) (by decide) (law_online hL C0 hfl hE hKL hj (hnext hj) u th H locs hu hP hD hS ls hl)
      · exact lv_tableIn (off := 1012) (tgt := 1051) hx hb dL_law_39 (by decide) (by decide) (by decide +kernel) (by decide) (law_skew hL C0 hfl hE hKL hj (hnext hj) u th H locs hu hP hD hS ls hl)
      · exact lv_tableIn (off := 1025) (tgt := 1064) hx hb dL_law_39 (by decide) (by decide) (by decide +kernel) (by decide) (law_serve hL C0 hfl hE hKL hj (hnext hj) u th H locs hu hP hD hS ls hl)
      · exact lv_tableIn (off := 1093) (tgt := 1132) hx hb dL_law_39 (by decide) (by decide) (by decide +kernel) (by decide) (law_servings hL C0 hfl hE hKL hj (hnext hj) u th H locs hu hP hD hS ls hl)
      · exact lv_tableIn (off := 1106) (tgt := 1145) hx hb dL_law_39 (by decide) (by decide) (by decide +kernel) (by decide) (law_served hL C0 hfl hE hKL hj (hnext hj) u th H locs hu hP hD hS ls hl)
      · exact lv_tableIn (off := 1162) (tgt := 1201) hx hb dL_law_39 (by decide) (by decide) (by decide +kernel) (by decide) (law_isSound hL C0 hfl hE hKL hj (hnext hj) u th H locs hu hP hD hS ls hl)
      · exact lv_tableIn (off := 1225) (tgt := 1264) hx hb dL_law_39 (by decide) (by decide) (by decide +kernel) (by decide) (law_unsound hL C0 hfl hE hKL hj (hnext hj) u th H locs hu hP hD hS ls hl)
      · refine lv_tableOut (tgt := 1277) hx hb dL_law_39 (Or.inr (by rw [nI_toInt (by omega)]; omega)) (by decide) ?_
        refine W.widen (k := 108 + 8 * j) (n := 3064 + 64 * j) (by omega) (by omega) ?_
        exact hnext hj u th H locs hu hP hD hS ls hl
