/-! the law's low, find and copied (laid by wip/p24/gen/find24.py) -/
theorem low_half (x : Int32) : ∃ j : Nat, j < 2 ^ 31 ∧ (x.toUInt32 >>> ((nI 1).toUInt32 &&& Int32.toUInt32 31)).toInt32 = nI j := by
  have h := pk_ushr x (nI 1) 1 (by decide)
  have hl := x.toBitVec.isLt
  refine ⟨x.toBitVec.toNat / 2 ^ 1, by omega, ?_⟩
  apply Int32.toBitVec_inj.mp
  apply BitVec.eq_of_toNat_eq
  rw [h, pk_tn (by omega)]

set_option maxHeartbeats 4000000 in
set_option maxRecDepth 100000 in
theorem c_L_low (l : Launch) (dD : va_G) (cI cR cS : ClassId) (lo : Nat) (x : Int32) (k : Nat) (h0 : 0 < k) (h2 : k < 2 ^ 31) : Met l yL_low wsL_low ({ frames := 0, cells := 0, slots := 0, locals := 0 }) (ePc dD cI cR cS lo [.int x, .int (nI k)] (fun H => True)) (vp_Si (fun r => ∃ j : Nat, j < k ∧ r = nI j)) 0 0 (fun _ => False) := by
  refine Met.ofW (cc := cL_low) (maxL := 2) (ret := (some .int)) (by decide) rfl ?_
  intro p e_ s m args below meth c s₁ B hml hv
  obtain ⟨rfl, hE, hP⟩ := hv
  have hx := B.exec
  have hb := B.bytes
  have hr := B.returns
  have hts := atoms_spec (ws := wsL_low) B.pre
  have hown : s.vm.findClass RL = some m.cls := findClass_of_methodNamed B.named
  have hlocks := B.notSynchronized
  have hK := hE.1.1
  have hl := lv_entry ([.int x, .int (nI k)]) (n := 2) (Nat.le_of_ble_eq_true rfl)
  rw [lg_entry_eq]
  generalize (lg_sl ([.int x, .int (nI k)]) ++ List.replicate (2 - (lg_sl ([.int x, .int (nI k)])).length) Slot.unset).toArray = ls at hl ⊢
  have hl : lv_has ls 2 [(0, .int x), (1, .int (nI k))] := hl
  refine lv_iload_n hx hb dL_low_0 rfl (lv_at hl 0 rfl) ?_
  refine lv_iconst (v := nI 1) hx hb dL_low_1 (by decide +kernel) ?_
  obtain ⟨j0, hj0, e0⟩ := low_half x
  refine lv_iushr (v := nI j0) hx hb dL_low_2 e0 ?_
  refine lv_iload_n hx hb dL_low_3 rfl (lv_at hl 1 rfl) ?_
  refine nv_irem hx hb dL_low_4 (by omega) (by omega) (by omega) ?_
  exact W.iret (v := nI (j0 % k)) hx hb hr (fun u9 hu9 hW => ⟨nI (j0 % k), rfl, ⟨j0 % k, Nat.mod_lt _ h0, rfl⟩, hu9⟩) (fun q h => absurd h List.not_mem_nil) dL_low_5

set_option maxHeartbeats 4000000 in
set_option maxRecDepth 100000 in
theorem c_L_find (l : Launch) (dD : va_G) (cI cR cS : ClassId) (lo : Nat) (la : Nat → Nat) (σ : St) (hI : sI σ) (hL : s_n σ ≤ 60) (q t k n : Nat) (hq : q < 60) (ht : t ≤ 10000) (hk : k ≤ 10000) (hn : n ≤ s_n σ) : Met l yL_find wsL_find ({ frames := 0, cells := 0, slots := 0, locals := 0 }) (ePc dD cI cR cS lo [.ref (la 0), .ref (la 1), .ref (la 2), .ref (la 4), .int (nI (pN q)), .int (nI t), .int (nI k), .int (nI n)] (fun H => va_P dD vwCl (lF cI la σ) H)) (vp_Si (fun r => r = eN (q_fr σ (q_best σ q t k n) t))) 0 0 (fun _ => False) := by
  refine Met.ofW (cc := cL_find) (maxL := 11) (ret := (some .int)) (by decide) rfl ?_
  intro p e_ s m args below meth c s₁ B hml hv
  obtain ⟨rfl, hE, hP⟩ := hv
  have hx := B.exec
  have hb := B.bytes
  have hr := B.returns
  have hts := atoms_spec (ws := wsL_find) B.pre
  have hown : s.vm.findClass RL = some m.cls := findClass_of_methodNamed B.named
  have hlocks := B.notSynchronized
  have hK := hE.1.1
  obtain ⟨i_now, i_n, i_tk, i_k, i_lt, i_row, i_cp, i_srv⟩ := id hI
  have hz_q := pN_lt hq
  have hl := lv_entry ([.ref (la 0), .ref (la 1), .ref (la 2), .ref (la 4), .int (nI (pN q)), .int (nI t), .int (nI k), .int (nI n)]) (n := 11) (Nat.le_of_ble_eq_true rfl)
  rw [lg_entry_eq]
  generalize (lg_sl ([.ref (la 0), .ref (la 1), .ref (la 2), .ref (la 4), .int (nI (pN q)), .int (nI t), .int (nI k), .int (nI n)]) ++ List.replicate (11 - (lg_sl ([.ref (la 0), .ref (la 1), .ref (la 2), .ref (la 4), .int (nI (pN q)), .int (nI t), .int (nI k), .int (nI n)])).length) Slot.unset).toArray = ls at hl ⊢
  have hl : lv_has ls 11 [(0, .ref (la 0)), (1, .ref (la 1)), (2, .ref (la 2)), (3, .ref (la 4)), (4, .int (nI (pN q))), (5, .int (nI t)), (6, .int (nI k)), (7, .int (nI n))] := hl
  refine lv_iconst (v := (-1)) hx hb dL_find_0 (by decide +kernel) ?_
  refine lv_istore (lv' := [(8, .int ((-1))), (0, .ref (la 0)), (1, .ref (la 1)), (2, .ref (la 2)), (3, .ref (la 4)), (4, .int (nI (pN q))), (5, .int (nI t)), (6, .int (nI k)), (7, .int (nI n))]) hx hb dL_find_1 hl (by decide) rfl (fun ls hl => ?_)
  refine lv_iconst (v := (-1)) hx hb dL_find_3 (by decide +kernel) ?_
  refine lv_istore (lv' := [(9, .int ((-1))), (8, .int ((-1))), (0, .ref (la 0)), (1, .ref (la 1)), (2, .ref (la 2)), (3, .ref (la 4)), (4, .int (nI (pN q))), (5, .int (nI t)), (6, .int (nI k)), (7, .int (nI n))]) hx hb dL_find_4 hl (by decide) rfl (fun ls hl => ?_)
  refine lv_iconst (v := nI 0) hx hb dL_find_6 (by decide +kernel) ?_
  refine lv_istore (lv' := [(10, .int (nI 0)), (9, .int ((-1))), (8, .int ((-1))), (0, .ref (la 0)), (1, .ref (la 1)), (2, .ref (la 2)), (3, .ref (la 4)), (4, .int (nI (pN q))), (5, .int (nI t)), (6, .int (nI k)), (7, .int (nI n))]) hx hb dL_find_7 hl (by decide) rfl (fun ls hl => ?_)
  have lp_9 : ∀ (d : Nat) (r : Nat), r ≤ n → n < r + d → ∀ (ls : Array Slot), lv_has ls 11 [(0, .ref (la 0)), (1, .ref (la 1)), (2, .ref (la 2)), (3, .ref (la 4)), (4, .int (nI (pN q))), (5, .int (nI t)), (6, .int (nI k)), (7, .int (nI n)), (8, .int (eN (q_best σ q t k r))), (9, .int (eN (q_key σ (q_best σ q t k r)))), (10, .int (nI r))] → W p l e_ (headSpec wsL_find ({ frames := 0, cells := 0, slots := 0, locals := 0 })).room s m (([.ref (la 0), .ref (la 1), .ref (la 2), .ref (la 4), .int (nI (pN q)), .int (nI t), .int (nI k), .int (nI n)] : List Value).toArray) below meth c s.heap [] 0 0 (MQ below (vp_Si (fun r => r = eN (q_fr σ (q_best σ q t k n) t))) ([.ref (la 0), .ref (la 1), .ref (la 2), .ref (la 4), .int (nI (pN q)), .int (nI t), .int (nI k), .int (nI n)] : List Value).toArray s 0 0 (fun _ => False)) (F0 m 9 ls []) := by
    intro d
    induction d with
    | zero =>
      intro r hr1 hr2 ls hl
      exact absurd hr2 (by omega)
    | succ d ih =>
      intro r hr1 hr2 ls hl
      refine lv_iload hx hb dL_find_9 (lv_at hl 10 rfl) ?_
      refine lv_iload hx hb dL_find_11 (lv_at hl 7 rfl) ?_
      refine nv_ge (tgt := 83) hx hb dL_find_13 (by decide) (by omega) (by omega) (fun c_13 => ?_) (fun c_13 => ?_)
      · have e_r : r = n := by omega
        rw [e_r] at hl
        have hz_b := q_best_spec (σ := σ) (q := q) (t := t) (k := k) n
        refine lv_iload hx hb dL_find_83 (lv_at hl 8 rfl) ?_
        refine nv_ltE (tgt := 110) hx hb dL_find_85 (by decide) (by omega) (fun c_85 => ?_) (fun c_85 => ?_)
        · refine lv_iconst (v := (-1)) hx hb dL_find_110 (by decide +kernel) ?_
          exact W.iret (v := ((-1))) hx hb hr (fun u9 hu9 hW => ⟨((-1)), rfl, by rw [c_85, q_fr_0]; rfl, hu9⟩) (fun q h => absurd h List.not_mem_nil) dL_find_111
        · have e8 := eN_pos c_85
          rw [e8] at hl
          have hz_c := hz_b.2 (q_best σ q t k n - 1) (by omega)
          have hz_d := i_row (q_best σ q t k n - 1) (by omega)
          have hz_m := pN_mod hq
          have hz_l := i_lt (pN q % 8) (by omega)
          refine lv_iload hx hb dL_find_88 (lv_at hl 5 rfl) ?_
          refine lv_aload_n hx hb dL_find_90 rfl (lv_at hl 1 rfl) ?_
          refine lv_iload hx hb dL_find_91 (lv_at hl 8 rfl) ?_
          refine nv_iald (q0 := 1) (t0 := 0) (s_ev σ) hx hb hK hP rfl rfl (by omega) (by decide) dL_find_93 ?_
          refine nv_isub hx hb dL_find_94 (by omega) ?_
          refine lv_aload_n hx hb dL_find_95 rfl (lv_at hl 3 rfl) ?_
          refine lv_iload hx hb dL_find_96 (lv_at hl 4 rfl) ?_
          refine lv_bipush (v := nI 8) hx hb dL_find_98 (by decide +kernel) ?_
          refine nv_irem hx hb dL_find_100 (by omega) (by omega) (by omega) ?_
          refine nv_iald (q0 := 3) (t0 := 0) (s_lt σ) hx hb hK hP rfl rfl (by omega) (by decide) dL_find_101 ?_
          refine nv_gt (tgt := 110) hx hb dL_find_102 (by decide) (by omega) (by omega) (fun c_102 => ?_) (fun c_102 => ?_)
          · refine lv_iconst (v := (-1)) hx hb dL_find_110 (by decide +kernel) ?_
            exact W.iret (v := ((-1))) hx hb hr (fun u9 hu9 hW => ⟨((-1)), rfl, by rw [q_fr_n c_85 (by rw [hz_c.1, ← hz_m]; omega)]; rfl, hu9⟩) (fun q h => absurd h List.not_mem_nil) dL_find_111
          · refine lv_iload hx hb dL_find_105 (lv_at hl 8 rfl) ?_
            refine lv_goto (tgt := 111) hx hb dL_find_107 (by decide) ?_
            exact W.iret (v := nI (q_best σ q t k n - 1)) hx hb hr (fun u9 hu9 hW => ⟨nI (q_best σ q t k n - 1), rfl, by rw [q_fr_s c_85 (by rw [hz_c.1, ← hz_m]; omega)]; exact e8.symm, hu9⟩) (fun q h => absurd h List.not_mem_nil) dL_find_111
      · have hz_r := i_row r (by omega)
        have hz_p : l_p σ r < 78 := pN_lt hz_r.1
        have hz_k := q_key_le hI hL (o := q_best σ q t k r) (Nat.le_trans (q_best_le σ q t k r) (by omega))
        refine lv_aload_n hx hb dL_find_16 rfl (lv_at hl 0 rfl) ?_
        refine lv_iload hx hb dL_find_17 (lv_at hl 10 rfl) ?_
        refine nv_iald (q0 := 0) (t0 := 0) (l_p σ) hx hb hK hP rfl rfl (by omega) (by decide) dL_find_19 ?_
        refine lv_iload hx hb dL_find_20 (lv_at hl 4 rfl) ?_
        refine nv_ne (tgt := 77) hx hb dL_find_22 (by decide) (by omega) (by omega) (fun c_22 => ?_) (fun c_22 => ?_)
        · refine lv_iinc (v := nI (r + 1)) (lv' := [(10, .int (nI (r + 1))), (0, .ref (la 0)), (1, .ref (la 1)), (2, .ref (la 2)), (3, .ref (la 4)), (4, .int (nI (pN q))), (5, .int (nI t)), (6, .int (nI k)), (7, .int (nI n)), (8, .int (eN (q_best σ q t k r))), (9, .int (eN (q_key σ (q_best σ q t k r))))]) hx hb dL_find_77 hl (k := 10) rfl (nv_inc _ 1) (by decide) rfl (fun ls hl => ?_)
          refine lv_goto (tgt := 9) hx hb dL_find_80 (by decide) ?_
          have e9 : q_best σ q t k (r + 1) = q_best σ q t k r := q_best_skip (by omega) (Or.inl (fun z => c_22 (congrArg pN z)))
          exact ih (r + 1) (by omega) (by omega) ls (by rw [e9]; exact lv_sub hl [1, 2, 3, 4, 5, 6, 7, 8, 9, 10, 0] rfl)
        · refine lv_aload_n hx hb dL_find_25 rfl (lv_at hl 1 rfl) ?_
          refine lv_iload hx hb dL_find_26 (lv_at hl 10 rfl) ?_
          refine nv_iald (q0 := 1) (t0 := 0) (s_ev σ) hx hb hK hP rfl rfl (by omega) (by decide) dL_find_28 ?_
          refine lv_iload hx hb dL_find_29 (lv_at hl 5 rfl) ?_
          refine nv_gt (tgt := 77) hx hb dL_find_31 (by decide) (by omega) (by omega) (fun c_31 => ?_) (fun c_31 => ?_)
          · refine lv_iinc (v := nI (r + 1)) (lv' := [(10, .int (nI (r + 1))), (0, .ref (la 0)), (1, .ref (la 1)), (2, .ref (la 2)), (3, .ref (la 4)), (4, .int (nI (pN q))), (5, .int (nI t)), (6, .int (nI k)), (7, .int (nI n)), (8, .int (eN (q_best σ q t k r))), (9, .int (eN (q_key σ (q_best σ q t k r))))]) hx hb dL_find_77 hl (k := 10) rfl (nv_inc _ 1) (by decide) rfl (fun ls hl => ?_)
            refine lv_goto (tgt := 9) hx hb dL_find_80 (by decide) ?_
            have e9 : q_best σ q t k (r + 1) = q_best σ q t k r := q_best_skip (by omega) (Or.inr (Or.inl (by omega)))
            exact ih (r + 1) (by omega) (by omega) ls (by rw [e9]; exact lv_sub hl [1, 2, 3, 4, 5, 6, 7, 8, 9, 10, 0] rfl)
          · refine lv_aload_n hx hb dL_find_34 rfl (lv_at hl 2 rfl) ?_
            refine lv_iload hx hb dL_find_35 (lv_at hl 10 rfl) ?_
            refine nv_iald (q0 := 2) (t0 := 0) (s_ar σ) hx hb hK hP rfl rfl (by omega) (by decide) dL_find_37 ?_
            refine lv_iload hx hb dL_find_38 (lv_at hl 6 rfl) ?_
            refine nv_gt (tgt := 77) hx hb dL_find_40 (by decide) (by omega) (by omega) (fun c_40 => ?_) (fun c_40 => ?_)
            · refine lv_iinc (v := nI (r + 1)) (lv' := [(10, .int (nI (r + 1))), (0, .ref (la 0)), (1, .ref (la 1)), (2, .ref (la 2)), (3, .ref (la 4)), (4, .int (nI (pN q))), (5, .int (nI t)), (6, .int (nI k)), (7, .int (nI n)), (8, .int (eN (q_best σ q t k r))), (9, .int (eN (q_key σ (q_best σ q t k r))))]) hx hb dL_find_77 hl (k := 10) rfl (nv_inc _ 1) (by decide) rfl (fun ls hl => ?_)
              refine lv_goto (tgt := 9) hx hb dL_find_80 (by decide) ?_
              have e9 : q_best σ q t k (r + 1) = q_best σ q t k r := q_best_skip (by omega) (Or.inr (Or.inr (Or.inl (by omega))))
              exact ih (r + 1) (by omega) (by omega) ls (by rw [e9]; exact lv_sub hl [1, 2, 3, 4, 5, 6, 7, 8, 9, 10, 0] rfl)
            · refine lv_bipush (v := nI 64) hx hb dL_find_43 (by decide +kernel) ?_
              refine lv_aload_n hx hb dL_find_45 rfl (lv_at hl 1 rfl) ?_
              refine lv_iload hx hb dL_find_46 (lv_at hl 10 rfl) ?_
              refine nv_iald (q0 := 1) (t0 := 0) (s_ev σ) hx hb hK hP rfl rfl (by omega) (by decide) dL_find_48 ?_
              refine nv_imul hx hb dL_find_49 ?_
              refine lv_iload hx hb dL_find_50 (lv_at hl 10 rfl) ?_
              refine nv_iadd hx hb dL_find_52 ?_
              refine lv_iload hx hb dL_find_53 (lv_at hl 9 rfl) ?_
              refine nv_geE (tgt := 61) hx hb dL_find_55 (by decide) (by omega) (by omega) (fun c_55 => ?_) (fun c_55 => ?_)
              · refine lv_bipush (v := nI 64) hx hb dL_find_61 (by decide +kernel) ?_
                refine lv_aload_n hx hb dL_find_63 rfl (lv_at hl 1 rfl) ?_
                refine lv_iload hx hb dL_find_64 (lv_at hl 10 rfl) ?_
                refine nv_iald (q0 := 1) (t0 := 0) (s_ev σ) hx hb hK hP rfl rfl (by omega) (by decide) dL_find_66 ?_
                refine nv_imul hx hb dL_find_67 ?_
                refine lv_iload hx hb dL_find_68 (lv_at hl 10 rfl) ?_
                refine nv_iadd hx hb dL_find_70 ?_
                refine lv_istore (lv' := [(9, .int (nI ((64 * (s_ev σ r)) + r))), (0, .ref (la 0)), (1, .ref (la 1)), (2, .ref (la 2)), (3, .ref (la 4)), (4, .int (nI (pN q))), (5, .int (nI t)), (6, .int (nI k)), (7, .int (nI n)), (8, .int (eN (q_best σ q t k r))), (10, .int (nI r))]) hx hb dL_find_71 hl (by decide) rfl (fun ls hl => ?_)
                refine lv_iload hx hb dL_find_73 (lv_at hl 10 rfl) ?_
                refine lv_istore (lv' := [(8, .int (nI r)), (9, .int (nI ((64 * (s_ev σ r)) + r))), (0, .ref (la 0)), (1, .ref (la 1)), (2, .ref (la 2)), (3, .ref (la 4)), (4, .int (nI (pN q))), (5, .int (nI t)), (6, .int (nI k)), (7, .int (nI n)), (10, .int (nI r))]) hx hb dL_find_75 hl (by decide) rfl (fun ls hl => ?_)
                refine lv_iinc (v := nI (r + 1)) (lv' := [(10, .int (nI (r + 1))), (8, .int (nI r)), (9, .int (nI ((64 * (s_ev σ r)) + r))), (0, .ref (la 0)), (1, .ref (la 1)), (2, .ref (la 2)), (3, .ref (la 4)), (4, .int (nI (pN q))), (5, .int (nI t)), (6, .int (nI k)), (7, .int (nI n))]) hx hb dL_find_77 hl (k := 10) rfl (nv_inc _ 1) (by decide) rfl (fun ls hl => ?_)
                refine lv_goto (tgt := 9) hx hb dL_find_80 (by decide) ?_
                have e9 : q_best σ q t k (r + 1) = r + 1 := q_best_got (by omega) ((pN_eq hz_r.1 hq).mp c_22) (by omega) (by omega) c_55
                exact ih (r + 1) (by omega) (by omega) ls (by rw [e9, q_key_s]; exact lv_sub hl [3, 4, 5, 6, 7, 8, 9, 10, 1, 2, 0] rfl)
              · refine lv_goto (tgt := 77) hx hb dL_find_58 (by decide) ?_
                refine lv_iinc (v := nI (r + 1)) (lv' := [(10, .int (nI (r + 1))), (0, .ref (la 0)), (1, .ref (la 1)), (2, .ref (la 2)), (3, .ref (la 4)), (4, .int (nI (pN q))), (5, .int (nI t)), (6, .int (nI k)), (7, .int (nI n)), (8, .int (eN (q_best σ q t k r))), (9, .int (eN (q_key σ (q_best σ q t k r))))]) hx hb dL_find_77 hl (k := 10) rfl (nv_inc _ 1) (by decide) rfl (fun ls hl => ?_)
                refine lv_goto (tgt := 9) hx hb dL_find_80 (by decide) ?_
                have e9 : q_best σ q t k (r + 1) = q_best σ q t k r := q_best_skip (by omega) (Or.inr (Or.inr (Or.inr c_55)))
                exact ih (r + 1) (by omega) (by omega) ls (by rw [e9]; exact lv_sub hl [1, 2, 3, 4, 5, 6, 7, 8, 9, 10, 0] rfl)
  exact lp_9 (n + 1) 0 (Nat.zero_le _) (by omega) ls (lv_sub hl [3, 4, 5, 6, 7, 8, 9, 10, 2, 1, 0] rfl)

set_option maxHeartbeats 4000000 in
set_option maxRecDepth 100000 in
theorem c_L_copied (l : Launch) (dD : va_G) (cI cR cS : ClassId) (lo : Nat) (la : Nat → Nat) (σ : St) (hI : sI σ) (hL : lI σ) (q : Nat) (hq : q < 60) : Met l yL_copied wsL_copied ({ frames := 1, cells := 0, slots := 0, locals := 30 }) (ePc dD cI cR cS lo [.ref (la 0), .ref (la 1), .ref (la 2), .ref (la 4), .ref (la 7), .int (nI (pN q))] (fun H => va_P dD vwCl (lF cI la σ ++ [(la 7, .inl (cI, 4, .inl (fun j => nI (l_g σ j))))]) H)) (vp_Si (fun r => r = eN (q_fr σ (s_cp σ q) (s_now σ)))) 0 0 (fun _ => False) := by
  refine Met.ofW (cc := cL_copied) (maxL := 6) (ret := (some .int)) (by decide) rfl ?_
  intro p e_ s m args below meth c s₁ B hml hv
  obtain ⟨rfl, hE, hP⟩ := hv
  have hx := B.exec
  have hb := B.bytes
  have hr := B.returns
  have hts := atoms_spec (ws := wsL_copied) B.pre
  have hown : s.vm.findClass RL = some m.cls := findClass_of_methodNamed B.named
  have hlocks := B.notSynchronized
  have hK := hE.1.1
  obtain ⟨i_now, i_n, i_tk, i_k, i_lt, i_row, i_cp, i_srv⟩ := id hI
  have hz_q := pN_lt hq
  have hl := lv_entry ([.ref (la 0), .ref (la 1), .ref (la 2), .ref (la 4), .ref (la 7), .int (nI (pN q))]) (n := 6) (Nat.le_of_ble_eq_true rfl)
  rw [lg_entry_eq]
  generalize (lg_sl ([.ref (la 0), .ref (la 1), .ref (la 2), .ref (la 4), .ref (la 7), .int (nI (pN q))]) ++ List.replicate (6 - (lg_sl ([.ref (la 0), .ref (la 1), .ref (la 2), .ref (la 4), .ref (la 7), .int (nI (pN q))])).length) Slot.unset).toArray = ls at hl ⊢
  have hl : lv_has ls 6 [(0, .ref (la 0)), (1, .ref (la 1)), (2, .ref (la 2)), (3, .ref (la 4)), (4, .ref (la 7)), (5, .int (nI (pN q)))] := hl
  refine lv_aload_n hx hb dL_copied_0 rfl (lv_at hl 0 rfl) ?_
  refine lv_aload_n hx hb dL_copied_1 rfl (lv_at hl 1 rfl) ?_
  refine lv_aload_n hx hb dL_copied_2 rfl (lv_at hl 2 rfl) ?_
  refine lv_aload_n hx hb dL_copied_3 rfl (lv_at hl 3 rfl) ?_
  refine lv_iload hx hb dL_copied_4 (lv_at hl 5 rfl) ?_
  refine lv_aload hx hb dL_copied_6 (lv_at hl 4 rfl) ?_
  refine lv_iconst (v := nI 0) hx hb dL_copied_8 (by decide +kernel) ?_
  refine nv_ialdE (q0 := 4) (t0 := 0) (v := s_now σ) (l_g σ) (rfl) hx hb hK hP rfl rfl (by decide) (by decide) dL_copied_9 ?_
  refine lv_aload hx hb dL_copied_10 (lv_at hl 4 rfl) ?_
  refine lv_iconst (v := nI 0) hx hb dL_copied_12 (by decide +kernel) ?_
  refine nv_ialdE (q0 := 4) (t0 := 0) (v := s_now σ) (l_g σ) (rfl) hx hb hK hP rfl rfl (by decide) (by decide) dL_copied_13 ?_
  refine lv_aload hx hb dL_copied_14 (lv_at hl 4 rfl) ?_
  refine lv_iconst (v := nI 2) hx hb dL_copied_16 (by decide +kernel) ?_
  refine nv_ialdE (q0 := 4) (t0 := 0) (v := s_tk σ) (l_g σ) (rfl) hx hb hK hP rfl rfl (by decide) (by decide) dL_copied_17 ?_
  refine vp_callSi (va_Run.run (va_runS (As := [.ref (la 0), .ref (la 1), .ref (la 2), .ref (la 4), .int (nI (pN q)), .int (nI (s_now σ)), .int (nI (s_now σ)), .int (nI (s_tk σ))]) (rest := []) ⟨hx, hb, hml, hown, hts⟩ (c_L_find l dD cI cR cS lo la σ hI hL.1 q (s_now σ) (s_now σ) (s_tk σ) hq (by omega) (by omega) (by omega)) (va_cwS 8 hts gL_copied_L_find rfl rfl rfl (by decide +kernel) ⟨Nat.le_of_ble_eq_true rfl, Nat.le_of_ble_eq_true rfl⟩) (ePreS hE va_S.rf (vP_app1 hP)) rfl rfl hl.1 rfl (lv_room (Nat.le_of_ble_eq_true rfl)) dL_copied_18 ⟨Nat.le_of_ble_eq_true rfl, Nat.le_of_ble_eq_true rfl⟩)) (fun r_18 hr_18 => ?_)
  subst hr_18
  exact W.iret (v := eN (q_fr σ (q_best σ q (s_now σ) (s_now σ) (s_tk σ)) (s_now σ))) hx hb hr (fun u9 hu9 hW => ⟨eN (q_fr σ (q_best σ q (s_now σ) (s_now σ) (s_tk σ)) (s_now σ)), rfl, by rw [hL.2.2 q hq], hu9⟩) (fun q h => absurd h List.not_mem_nil) dL_copied_21
