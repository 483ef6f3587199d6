/-! both constructors (laid by wip/whole/gen/xinit.py) -/
set_option maxHeartbeats 4000000 in
set_option maxRecDepth 100000 in
theorem c_X2_init (l : Launch) (dD : va_G) (sz x0 : Nat) : Met l yX2_init wsX2_init ({ frames := 1, cells := 5, slots := 526, locals := 12 }) (va_Pc [.ref x0] (fun U => U.heap.size = sz ∧ va_P dD vwCl [(x0, .inr (2, [.int (nI 0), .null, .null, .int (nI 0), .null, .null, .int (nI 0), .null, .int (nI 0)]))] U.heap ∧ va_K dD vwCl [] U ∧ va_D (fun _ => True) [(x0, .inr (2, [.int (nI 0), .null, .null, .int (nI 0), .null, .null, .int (nI 0), .null, .int (nI 0)]))] ∧ va_AO RX0 U ∧ va_AO RX1 U)) (va_Qv (fun (_ : (Nat → Nat) × ClassId × ClassId × ClassId) => True) (fun u t => va_P dD vwCl (xW u.2.1 u.2.2.1 u.2.2.2 x0 u.1 (fun _ => 0) (fun _ => 0) (fun _ => 0) (fun _ => 0) σ_0) t.heap ∧ va_K dD vwCl [(u.2.1, .int), (u.2.2.1, .object RX0), (u.2.2.2, .object RX1)] t ∧ va_D (va_A [(x0, .inr (2, [.int (nI 0), .null, .null, .int (nI 0), .null, .null, .int (nI 0), .null, .int (nI 0)]))] sz) (xW u.2.1 u.2.2.1 u.2.2.2 x0 u.1 (fun _ => 0) (fun _ => 0) (fun _ => 0) (fun _ => 0) σ_0)) (va_A [(x0, .inr (2, [.int (nI 0), .null, .null, .int (nI 0), .null, .null, .int (nI 0), .null, .int (nI 0)]))] sz)) 5 526 (va_A [(x0, .inr (2, [.int (nI 0), .null, .null, .int (nI 0), .null, .null, .int (nI 0), .null, .int (nI 0)]))] sz) := by
  refine Met.ofW (cc := cX2_init) (maxL := 2) (ret := none) (by decide) rfl ?_
  intro p e_ s m args below meth c s₁ B hml hv
  obtain ⟨rfl, hsz, hP, hK, hD0, hOX0, hOX1⟩ := hv
  have hx := B.exec
  have hb := B.bytes
  have hr := B.returns
  have hts := atoms_spec (ws := wsX2_init) B.pre
  have hown : s.vm.findClass RX2 = some m.cls := findClass_of_methodNamed B.named
  have hlocks := B.notSynchronized
  have hinX2 : ∀ w ∈ u_ws RX2 TX2 9, w ∈ wsX2_init := by decide +kernel
  
  have hin : meth.name = "<init>" := (name_of_methodNamed B.named B.method).1
  subst hsz
  have hD := hD0.self (sz := s.heap.size)
  generalize hAe : va_A [(x0, .inr (2, [.int (nI 0), .null, .null, .int (nI 0), .null, .null, .int (nI 0), .null, .int (nI 0)]))] s.heap.size = A at hD ⊢
  have hA : ∀ q : Nat, s.heap.size ≤ q → A q := fun q h => by rw [← hAe]; exact Or.inr h
  have hS : va_S A s.heap s.heap [] := va_S.rf
  have hP : va_P dD vwCl [(x0, .inr (2, [.int (nI 0), .null, .null, .int (nI 0), .null, .null, .int (nI 0), .null, .int (nI 0)]))] s.heap := hP
  have hl := lv_entry ([.ref x0]) (n := 2) (Nat.le_of_ble_eq_true rfl)
  rw [lg_entry_eq]
  generalize (lg_sl ([.ref x0]) ++ List.replicate (2 - (lg_sl ([.ref x0])).length) Slot.unset).toArray = ls at hl ⊢
  have hl : lv_has ls 2 [(0, .ref x0)] := hl
  refine lv_aload_n hx hb dX2_init_0 rfl (lv_at hl 0 rfl) ?_
  refine W.objInit hx hb hown (hts (.methodLink RX2 1 objectInit) (by decide +kernel)) (hts (.instanceMethod objectInit) (by decide +kernel)) (hts (.code objectInit ⟨#[0xb1]⟩ 1 none) (by decide +kernel)) rfl (by rw [hml]; exact hl.1) rfl dX2_init_1 (Nat.le_of_ble_eq_true rfl) (Nat.le_of_ble_eq_true rfl) ?_
  refine W.eq (g2 := F0 m 4 ls []) rfl ?_
  refine lv_aload_n hx hb dX2_init_4 rfl (lv_at hl 0 rfl) ?_
  refine lv_bipush (v := nI 6) hx hb dX2_init_5 (by decide +kernel) ?_
  refine va_newa (atype := .int) hx hb (hts (.arrayClass .int) (by decide +kernel)) rfl hK hP hD hS hA (n := nI 6) (N' := 6) (a0 := (6, .inl (fun _ => nI 0))) (fun cA => rfl) (by decide +kernel) (by decide +kernel) (Nat.le_of_ble_eq_true rfl) (Nat.le_of_ble_eq_true rfl) (Nat.le_of_ble_eq_true rfl) dX2_init_7 (fun q0 cA H hK2 hP hD hS => ?_)
  obtain ⟨cI, hcI⟩ : ∃ z, z = cA := ⟨_, rfl⟩
  subst hcI
  have hK : va_K dD vwCl [(cI, .int)] s := hK2
  have hP : va_P dD vwCl [(x0, .inr (2, [.int (nI 0), .null, .null, .int (nI 0), .null, .null, .int (nI 0), .null, .int (nI 0)])), (q0, .inl (cI, 6, .inl (fun j => nI ((fun _ => 0) j))))] H := hP
  have hD : va_D A [(x0, .inr (2, [.int (nI 0), .null, .null, .int (nI 0), .null, .null, .int (nI 0), .null, .int (nI 0)])), (q0, .inl (cI, 6, .inl (fun j => nI ((fun _ => 0) j))))] := hD
  refine va_putF (D := dD) (ci := 2) (v := .ref q0) (ty := (tyX2 1)) (C := RX2) (T := TX2) (N := 9) hx hb hts hinX2 tyX2 tyX2_ok nmX2 hown hK hP hD hS 0 rfl rfl 1 (by decide) (hts (.fieldLink RX2 9 "FeatureStore" "lifetimes" "[I") (by decide +kernel)) (fun _ h9 => h9) rfl hin rfl (by decide +kernel) rfl rfl (Nat.le_of_ble_eq_true rfl) dX2_init_9 (fun H locs hP hD hS => ?_)
  have hP : va_P dD vwCl [(x0, .inr (2, [.int (nI 0), .ref q0, .null, .int (nI 0), .null, .null, .int (nI 0), .null, .int (nI 0)])), (q0, .inl (cI, 6, .inl (fun j => nI ((fun _ => 0) j))))] H := hP
  have hD : va_D A [(x0, .inr (2, [.int (nI 0), .ref q0, .null, .int (nI 0), .null, .null, .int (nI 0), .null, .int (nI 0)])), (q0, .inl (cI, 6, .inl (fun j => nI ((fun _ => 0) j))))] := hD
  refine lv_iconst (v := nI 0) hx hb dX2_init_12 (by decide +kernel) ?_
  refine lv_istore_n (lv' := [(1, .int (nI 0)), (0, .ref x0)]) hx hb dX2_init_13 rfl hl (by decide) rfl (fun ls hl => ?_)
  rw [show (fun j : Nat => nI ((fun _ => 0 : Nat → Nat) j)) = fun j => nI (lt0 0 j) from by rw [lt0_zero]] at hP hD
  have hP : va_P dD vwCl [(x0, .inr (2, [.int (nI 0), .ref q0, .null, .int (nI 0), .null, .null, .int (nI 0), .null, .int (nI 0)])), (q0, .inl (cI, 6, .inl (fun j => nI (lt0 0 j))))] H := hP
  have hD : va_D A [(x0, .inr (2, [.int (nI 0), .ref q0, .null, .int (nI 0), .null, .null, .int (nI 0), .null, .int (nI 0)])), (q0, .inl (cI, 6, .inl (fun j => nI (lt0 0 j))))] := hD
  refine W.widen (k := 1) (n := 6) (by decide) (by decide) ?_
  have hlp : ∀ (d i : Nat), i ≤ 6 → 6 < i + d → ∀ (H : Heap) (locs : List Loc), va_P dD vwCl [(x0, .inr (2, [.int (nI 0), .ref q0, .null, .int (nI 0), .null, .null, .int (nI 0), .null, .int (nI 0)])), (q0, .inl (cI, 6, .inl (fun j => nI (lt0 i j))))] H → va_D A [(x0, .inr (2, [.int (nI 0), .ref q0, .null, .int (nI 0), .null, .null, .int (nI 0), .null, .int (nI 0)])), (q0, .inl (cI, 6, .inl (fun j => nI (lt0 i j))))] → va_S A s.heap H locs → ∀ (ls : Array Slot), lv_has ls 2 [(0, .ref x0), (1, .int (nI i))] → W p l e_ (headSpec wsX2_init ({ frames := 1, cells := 5, slots := 526, locals := 12 })).room s m (([.ref x0] : List Value).toArray) below meth c H locs 1 6 (MQ below (va_Qv (fun (_ : (Nat → Nat) × ClassId × ClassId × ClassId) => True) (fun u t => va_P dD vwCl (xW u.2.1 u.2.2.1 u.2.2.2 x0 u.1 (fun _ => 0) (fun _ => 0) (fun _ => 0) (fun _ => 0) σ_0) t.heap ∧ va_K dD vwCl [(u.2.1, .int), (u.2.2.1, .object RX0), (u.2.2.2, .object RX1)] t ∧ va_D A (xW u.2.1 u.2.2.1 u.2.2.2 x0 u.1 (fun _ => 0) (fun _ => 0) (fun _ => 0) (fun _ => 0) σ_0)) A) (([.ref x0] : List Value).toArray) s 5 526 A) (F0 m 14 ls []) := by
    intro d
    induction d with
    | zero =>
      intro i h1 h2 H locs hP hD hS ls hl
      exact absurd h2 (by omega)
    | succ d ih =>
      intro i h1 h2 H locs hP hD hS ls hl
      refine lv_iload_n hx hb dX2_init_14 rfl (lv_at hl 1 rfl) ?_
      refine lv_bipush (v := nI 6) hx hb dX2_init_15 (by decide +kernel) ?_
      refine nv_ge (tgt := 35) hx hb dX2_init_17 (by decide) (by omega) (by omega) (fun c_17 => ?_) (fun c_17 => ?_)
      · have hre : i = 6 := by omega
        subst hre
        have hP : va_P dD vwCl [(x0, .inr (2, [.int (nI 0), .ref q0, .null, .int (nI 0), .null, .null, .int (nI 0), .null, .int (nI 0)])), (q0, .inl (cI, 6, .inl (fun j => nI (lt0 6 j))))] H := hP
        have hD : va_D A [(x0, .inr (2, [.int (nI 0), .ref q0, .null, .int (nI 0), .null, .null, .int (nI 0), .null, .int (nI 0)])), (q0, .inl (cI, 6, .inl (fun j => nI (lt0 6 j))))] := hD
        have hl : lv_has ls 2 [(0, .ref x0)] := lv_sub hl [0] rfl
        refine lv_aload_n hx hb dX2_init_35 rfl (lv_at hl 0 rfl) ?_
        refine lv_sipush (v := nI 200) hx hb dX2_init_36 (by decide +kernel) ?_
        refine va_newq hx hb hown (hts (.classLink RX2 13 RX0) (by decide +kernel)) hOX0 hK hP hD hS hA (n := nI 200) (N' := 200) (by decide +kernel) (by decide +kernel) (Nat.le_of_ble_eq_true rfl) (Nat.le_of_ble_eq_true rfl) (Nat.le_of_ble_eq_true rfl) dX2_init_39 (fun q1 cA H hK2 hP hD hS => ?_)
        obtain ⟨cR, hcI⟩ : ∃ z, z = cA := ⟨_, rfl⟩
        subst hcI
        have hK : va_K dD vwCl [(cI, .int), (cR, .object RX0)] s := hK2
        have hP : va_P dD vwCl [(x0, .inr (2, [.int (nI 0), .ref q0, .null, .int (nI 0), .null, .null, .int (nI 0), .null, .int (nI 0)])), (q0, .inl (cI, 6, .inl (fun j => nI (lt0 6 j)))), (q1, .inl (cR, 200, .inr (.inr (.inr (.inr (fun _ => none))))))] H := hP
        have hD : va_D A [(x0, .inr (2, [.int (nI 0), .ref q0, .null, .int (nI 0), .null, .null, .int (nI 0), .null, .int (nI 0)])), (q0, .inl (cI, 6, .inl (fun j => nI (lt0 6 j)))), (q1, .inl (cR, 200, .inr (.inr (.inr (.inr (fun _ => none))))))] := hD
        refine va_putF (D := dD) (ci := 2) (v := .ref q1) (ty := (tyX2 2)) (C := RX2) (T := TX2) (N := 9) hx hb hts hinX2 tyX2 tyX2_ok nmX2 hown hK hP hD hS 0 rfl rfl 2 (by decide) (hts (.fieldLink RX2 15 "FeatureStore" "rows" "[LFeatureStore$Row;") (by decide +kernel)) (fun _ h9 => h9) rfl hin rfl (by decide +kernel) rfl rfl (Nat.le_of_ble_eq_true rfl) dX2_init_42 (fun H locs hP hD hS => ?_)
        have hP : va_P dD vwCl [(x0, .inr (2, [.int (nI 0), .ref q0, .ref q1, .int (nI 0), .null, .null, .int (nI 0), .null, .int (nI 0)])), (q0, .inl (cI, 6, .inl (fun j => nI (lt0 6 j)))), (q1, .inl (cR, 200, .inr (.inr (.inr (.inr (fun _ => none))))))] H := hP
        have hD : va_D A [(x0, .inr (2, [.int (nI 0), .ref q0, .ref q1, .int (nI 0), .null, .null, .int (nI 0), .null, .int (nI 0)])), (q0, .inl (cI, 6, .inl (fun j => nI (lt0 6 j)))), (q1, .inl (cR, 200, .inr (.inr (.inr (.inr (fun _ => none))))))] := hD
        refine lv_aload_n hx hb dX2_init_45 rfl (lv_at hl 0 rfl) ?_
        refine lv_bipush (v := nI 60) hx hb dX2_init_46 (by decide +kernel) ?_
        refine va_newq hx hb hown (hts (.classLink RX2 13 RX0) (by decide +kernel)) hOX0 hK hP hD hS hA (n := nI 60) (N' := 60) (by decide +kernel) (by decide +kernel) (Nat.le_of_ble_eq_true rfl) (Nat.le_of_ble_eq_true rfl) (Nat.le_of_ble_eq_true rfl) dX2_init_48 (fun q2 cA H hK2 hP hD hS => ?_)
        have hcA : cR = cA := (kEqO (i := 1) (j := 2) hK2 rfl rfl).symm
        subst hcA
        have hP : va_P dD vwCl [(x0, .inr (2, [.int (nI 0), .ref q0, .ref q1, .int (nI 0), .null, .null, .int (nI 0), .null, .int (nI 0)])), (q0, .inl (cI, 6, .inl (fun j => nI (lt0 6 j)))), (q1, .inl (cR, 200, .inr (.inr (.inr (.inr (fun _ => none)))))), (q2, .inl (cR, 60, .inr (.inr (.inr (.inr (fun _ => none))))))] H := hP
        have hD : va_D A [(x0, .inr (2, [.int (nI 0), .ref q0, .ref q1, .int (nI 0), .null, .null, .int (nI 0), .null, .int (nI 0)])), (q0, .inl (cI, 6, .inl (fun j => nI (lt0 6 j)))), (q1, .inl (cR, 200, .inr (.inr (.inr (.inr (fun _ => none)))))), (q2, .inl (cR, 60, .inr (.inr (.inr (.inr (fun _ => none))))))] := hD
        refine va_putF (D := dD) (ci := 2) (v := .ref q2) (ty := (tyX2 4)) (C := RX2) (T := TX2) (N := 9) hx hb hts hinX2 tyX2 tyX2_ok nmX2 hown hK hP hD hS 0 rfl rfl 4 (by decide) (hts (.fieldLink RX2 19 "FeatureStore" "latest" "[LFeatureStore$Row;") (by decide +kernel)) (fun _ h9 => h9) rfl hin rfl (by decide +kernel) rfl rfl (Nat.le_of_ble_eq_true rfl) dX2_init_51 (fun H locs hP hD hS => ?_)
        have hP : va_P dD vwCl [(x0, .inr (2, [.int (nI 0), .ref q0, .ref q1, .int (nI 0), .ref q2, .null, .int (nI 0), .null, .int (nI 0)])), (q0, .inl (cI, 6, .inl (fun j => nI (lt0 6 j)))), (q1, .inl (cR, 200, .inr (.inr (.inr (.inr (fun _ => none)))))), (q2, .inl (cR, 60, .inr (.inr (.inr (.inr (fun _ => none))))))] H := hP
        have hD : va_D A [(x0, .inr (2, [.int (nI 0), .ref q0, .ref q1, .int (nI 0), .ref q2, .null, .int (nI 0), .null, .int (nI 0)])), (q0, .inl (cI, 6, .inl (fun j => nI (lt0 6 j)))), (q1, .inl (cR, 200, .inr (.inr (.inr (.inr (fun _ => none)))))), (q2, .inl (cR, 60, .inr (.inr (.inr (.inr (fun _ => none))))))] := hD
        refine lv_aload_n hx hb dX2_init_54 rfl (lv_at hl 0 rfl) ?_
        refine lv_bipush (v := nI 60) hx hb dX2_init_55 (by decide +kernel) ?_
        refine va_newq hx hb hown (hts (.classLink RX2 13 RX0) (by decide +kernel)) hOX0 hK hP hD hS hA (n := nI 60) (N' := 60) (by decide +kernel) (by decide +kernel) (Nat.le_of_ble_eq_true rfl) (Nat.le_of_ble_eq_true rfl) (Nat.le_of_ble_eq_true rfl) dX2_init_57 (fun q3 cA H hK2 hP hD hS => ?_)
        have hcA : cR = cA := (kEqO (i := 1) (j := 2) hK2 rfl rfl).symm
        subst hcA
        have hP : va_P dD vwCl [(x0, .inr (2, [.int (nI 0), .ref q0, .ref q1, .int (nI 0), .ref q2, .null, .int (nI 0), .null, .int (nI 0)])), (q0, .inl (cI, 6, .inl (fun j => nI (lt0 6 j)))), (q1, .inl (cR, 200, .inr (.inr (.inr (.inr (fun _ => none)))))), (q2, .inl (cR, 60, .inr (.inr (.inr (.inr (fun _ => none)))))), (q3, .inl (cR, 60, .inr (.inr (.inr (.inr (fun _ => none))))))] H := hP
        have hD : va_D A [(x0, .inr (2, [.int (nI 0), .ref q0, .ref q1, .int (nI 0), .ref q2, .null, .int (nI 0), .null, .int (nI 0)])), (q0, .inl (cI, 6, .inl (fun j => nI (lt0 6 j)))), (q1, .inl (cR, 200, .inr (.inr (.inr (.inr (fun _ => none)))))), (q2, .inl (cR, 60, .inr (.inr (.inr (.inr (fun _ => none)))))), (q3, .inl (cR, 60, .inr (.inr (.inr (.inr (fun _ => none))))))] := hD
        refine va_putF (D := dD) (ci := 2) (v := .ref q3) (ty := (tyX2 5)) (C := RX2) (T := TX2) (N := 9) hx hb hts hinX2 tyX2 tyX2_ok nmX2 hown hK hP hD hS 0 rfl rfl 5 (by decide) (hts (.fieldLink RX2 22 "FeatureStore" "onlineCopy" "[LFeatureStore$Row;") (by decide +kernel)) (fun _ h9 => h9) rfl hin rfl (by decide +kernel) rfl rfl (Nat.le_of_ble_eq_true rfl) dX2_init_60 (fun H locs hP hD hS => ?_)
        have hP : va_P dD vwCl [(x0, .inr (2, [.int (nI 0), .ref q0, .ref q1, .int (nI 0), .ref q2, .ref q3, .int (nI 0), .null, .int (nI 0)])), (q0, .inl (cI, 6, .inl (fun j => nI (lt0 6 j)))), (q1, .inl (cR, 200, .inr (.inr (.inr (.inr (fun _ => none)))))), (q2, .inl (cR, 60, .inr (.inr (.inr (.inr (fun _ => none)))))), (q3, .inl (cR, 60, .inr (.inr (.inr (.inr (fun _ => none))))))] H := hP
        have hD : va_D A [(x0, .inr (2, [.int (nI 0), .ref q0, .ref q1, .int (nI 0), .ref q2, .ref q3, .int (nI 0), .null, .int (nI 0)])), (q0, .inl (cI, 6, .inl (fun j => nI (lt0 6 j)))), (q1, .inl (cR, 200, .inr (.inr (.inr (.inr (fun _ => none)))))), (q2, .inl (cR, 60, .inr (.inr (.inr (.inr (fun _ => none)))))), (q3, .inl (cR, 60, .inr (.inr (.inr (.inr (fun _ => none))))))] := hD
        refine lv_aload_n hx hb dX2_init_63 rfl (lv_at hl 0 rfl) ?_
        refine lv_sipush (v := nI 200) hx hb dX2_init_64 (by decide +kernel) ?_
        refine va_newq hx hb hown (hts (.classLink RX2 25 RX1) (by decide +kernel)) hOX1 hK hP hD hS hA (n := nI 200) (N' := 200) (by decide +kernel) (by decide +kernel) (Nat.le_of_ble_eq_true rfl) (Nat.le_of_ble_eq_true rfl) (Nat.le_of_ble_eq_true rfl) dX2_init_67 (fun q4 cA H hK2 hP hD hS => ?_)
        obtain ⟨cS, hcI⟩ : ∃ z, z = cA := ⟨_, rfl⟩
        subst hcI
        have hK : va_K dD vwCl [(cI, .int), (cR, .object RX0), (cS, .object RX1)] s := hK2
        have hP : va_P dD vwCl [(x0, .inr (2, [.int (nI 0), .ref q0, .ref q1, .int (nI 0), .ref q2, .ref q3, .int (nI 0), .null, .int (nI 0)])), (q0, .inl (cI, 6, .inl (fun j => nI (lt0 6 j)))), (q1, .inl (cR, 200, .inr (.inr (.inr (.inr (fun _ => none)))))), (q2, .inl (cR, 60, .inr (.inr (.inr (.inr (fun _ => none)))))), (q3, .inl (cR, 60, .inr (.inr (.inr (.inr (fun _ => none)))))), (q4, .inl (cS, 200, .inr (.inr (.inr (.inr (fun _ => none))))))] H := hP
        have hD : va_D A [(x0, .inr (2, [.int (nI 0), .ref q0, .ref q1, .int (nI 0), .ref q2, .ref q3, .int (nI 0), .null, .int (nI 0)])), (q0, .inl (cI, 6, .inl (fun j => nI (lt0 6 j)))), (q1, .inl (cR, 200, .inr (.inr (.inr (.inr (fun _ => none)))))), (q2, .inl (cR, 60, .inr (.inr (.inr (.inr (fun _ => none)))))), (q3, .inl (cR, 60, .inr (.inr (.inr (.inr (fun _ => none)))))), (q4, .inl (cS, 200, .inr (.inr (.inr (.inr (fun _ => none))))))] := hD
        refine va_putF (D := dD) (ci := 2) (v := .ref q4) (ty := (tyX2 7)) (C := RX2) (T := TX2) (N := 9) hx hb hts hinX2 tyX2 tyX2_ok nmX2 hown hK hP hD hS 0 rfl rfl 7 (by decide) (hts (.fieldLink RX2 27 "FeatureStore" "servings" "[LFeatureStore$Serving;") (by decide +kernel)) (fun _ h9 => h9) rfl hin rfl (by decide +kernel) rfl rfl (Nat.le_of_ble_eq_true rfl) dX2_init_70 (fun H locs hP hD hS => ?_)
        have hP : va_P dD vwCl [(x0, .inr (2, [.int (nI 0), .ref q0, .ref q1, .int (nI 0), .ref q2, .ref q3, .int (nI 0), .ref q4, .int (nI 0)])), (q0, .inl (cI, 6, .inl (fun j => nI (lt0 6 j)))), (q1, .inl (cR, 200, .inr (.inr (.inr (.inr (fun _ => none)))))), (q2, .inl (cR, 60, .inr (.inr (.inr (.inr (fun _ => none)))))), (q3, .inl (cR, 60, .inr (.inr (.inr (.inr (fun _ => none)))))), (q4, .inl (cS, 200, .inr (.inr (.inr (.inr (fun _ => none))))))] H := hP
        have hD : va_D A [(x0, .inr (2, [.int (nI 0), .ref q0, .ref q1, .int (nI 0), .ref q2, .ref q3, .int (nI 0), .ref q4, .int (nI 0)])), (q0, .inl (cI, 6, .inl (fun j => nI (lt0 6 j)))), (q1, .inl (cR, 200, .inr (.inr (.inr (.inr (fun _ => none)))))), (q2, .inl (cR, 60, .inr (.inr (.inr (.inr (fun _ => none)))))), (q3, .inl (cR, 60, .inr (.inr (.inr (.inr (fun _ => none)))))), (q4, .inl (cS, 200, .inr (.inr (.inr (.inr (fun _ => none))))))] := hD
        exact W.vret hx hb hr (fun u9 hu9 hW => ⟨⟨(fun k => [q0, q1, q2, q3, q4].getD k 0, cI, cR, cS), rfl, trivial, by have h9 := hP; rw [← hu9] at h9; exact ⟨h9, va_K.moved hW.alike hK, hAe ▸ hD⟩⟩, hS.F hu9⟩) hS.2.2 dX2_init_73
      · refine lv_aload_n hx hb dX2_init_20 rfl (lv_at hl 0 rfl) ?_
        refine va_get (D := dD) (ci := 2) (v := .ref q0) (C := RX2) (T := TX2) (N := 9) hx hb hts hinX2 hown hK hP 0 rfl rfl 1 (by decide) (hts (.fieldLink RX2 9 "FeatureStore" "lifetimes" "[I") (by decide +kernel)) (fun _ h9 => h9) rfl dX2_init_21 ?_
        refine lv_iload_n hx hb dX2_init_24 rfl (lv_at hl 1 rfl) ?_
        refine lv_sipush (v := nI 10000) hx hb dX2_init_25 (by decide +kernel) ?_
        refine nv_iast (q0 := 1) (t0 := 0) (lt0 i) hx hb hK hP hD hS rfl rfl (by omega) (by decide) dX2_init_28 (fun H locs hP hD hS => ?_)
        have hP : va_P dD vwCl [(x0, .inr (2, [.int (nI 0), .ref q0, .null, .int (nI 0), .null, .null, .int (nI 0), .null, .int (nI 0)])), (q0, .inl (cI, 6, .inl (fun j => nI ((uN (lt0 i) i 10000) j))))] H := hP
        have hD : va_D A [(x0, .inr (2, [.int (nI 0), .ref q0, .null, .int (nI 0), .null, .null, .int (nI 0), .null, .int (nI 0)])), (q0, .inl (cI, 6, .inl (fun j => nI ((uN (lt0 i) i 10000) j))))] := hD
        refine lv_iinc (v := nI (i + 1)) (lv' := [(1, .int (nI (i + 1))), (0, .ref x0)]) hx hb dX2_init_29 hl (k := 1) rfl (nv_inc _ 1) (by decide) rfl (fun ls hl => ?_)
        refine lv_goto (tgt := 14) hx hb dX2_init_32 (by decide) ?_
        rw [lt0_step] at hP hD
        exact ih (i + 1) (by omega) (by omega) H locs hP hD hS ls (lv_sub hl [1, 0] rfl)
  exact hlp 7 0 (by omega) (by omega) H locs hP hD hS ls (lv_sub hl [1, 0] rfl)

