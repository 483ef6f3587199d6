/-! the class's walks over its chains, as functions of lists; rows over references that may be null -/
def c_first (σ : St) (t k : Nat) : List Nat → Nat
  | [] => 0
  | x :: l => if s_ev σ x ≤ t ∧ s_ar σ x ≤ k then x + 1 else c_first σ t k l
def c_sum (σ : St) (a b : Nat) : List Nat → Nat
  | [] => 0
  | x :: l => (if a ≤ s_ev σ x ∧ s_ev σ x ≤ b then s_vl σ x else 0) + c_sum σ a b l
/-- what stands in the running sum behind a row -/
def c_s (σ : St) (len x s tl : Nat) : Nat := (if s_ev σ x / len + 1 = tl then s else 0) + s_vl σ x
def c_gt (σ : St) (len : Nat) : List Nat → Nat → Nat → Nat → Nat
  | [], g, _, _ => g
  | x :: l, g, s, tl => c_gt σ len l (max g (c_s σ len x s tl)) (c_s σ len x s tl) (s_ev σ x / len + 1)
def c_tl (σ : St) (len : Nat) : List Nat → Nat → Nat
  | [], _ => 0
  | x :: l, tl => (if s_ev σ x / len + 1 = tl then 0 else 1) + c_tl σ len l (s_ev σ x / len + 1)
def c_mb (e T : Nat) : Nat := (e + T - 1) / T
def c_ru (σ : St) (f x later : Nat) : Nat := min (min later (s_ev σ x + s_lt σ f + 1)) (s_ar σ x)
def c_rev (σ : St) (f T : Nat) : List Nat → Nat → Nat
  | [], _ => 0
  | x :: l, later => (if s_ev σ x < c_ru σ f x later then c_mb (c_ru σ f x later) T - c_mb (s_ev σ x) T else 0) + c_rev σ f T l (s_ev σ x)
section NVC
variable {p : Program} {l : Launch} {e : Env} {R : Room} {s : State} {m : MethodId} {args : Array Value} {below : List Frame} {meth : Method} {c : Code} {H : Heap} {locs : List Loc} {cells slots : Nat} {Q : State → Prop}
variable {cc : ByteArray} {pc : Nat} {ls : Array Slot} {rest st0 : List Value} {a : Array Value} {mc ms : Nat} {D : va_G} {cl : List vw_C} {tys : List (ClassId × FieldType)} {ws : va_W} {A : Nat → Prop} {H0 : Heap}
theorem nq_astore_n {o : Option Nat} {k : Fin 4} {i nL : Nat} {lv lv' : List (Nat × Value)} (hx : p.tables.exec = Jvm.exec) (hb : c.code = cc) (hdg : decode cc pc = .ok (.astore_n k, 1)) (hi : (k : Nat) = i) (h : lv_has ls nL lv) (hn : i < nL) (hl : (i, va_rf o) :: lv.filter (fun q => !(q.1 == i) && !(q.1 + 1 == i && q.2.category == 2)) = lv')
    (kk : ∀ ls' : Array Slot, lv_has ls' nL lv' → W p l e R s m args below meth c H locs cells slots Q (F0 m (pc + 1) ls' rest)) : W p l e R s m args below meth c H locs cells slots Q (F0 m pc ls (va_rf o :: rest)) := by
  cases o with
  | none => exact lv_astore_nN hx hb hdg hi h hn hl kk
  | some q => exact lv_astore_n hx hb hdg hi h hn hl kk
theorem nq_astore {o : Option Nat} {i nL : Nat} {lv lv' : List (Nat × Value)} (hx : p.tables.exec = Jvm.exec) (hb : c.code = cc) (hdg : decode cc pc = .ok (.astore i, 2)) (h : lv_has ls nL lv) (hn : i < nL) (hl : (i, va_rf o) :: lv.filter (fun q => !(q.1 == i) && !(q.1 + 1 == i && q.2.category == 2)) = lv')
    (kk : ∀ ls' : Array Slot, lv_has ls' nL lv' → W p l e R s m args below meth c H locs cells slots Q (F0 m (pc + 2) ls' rest)) : W p l e R s m args below meth c H locs cells slots Q (F0 m pc ls (va_rf o :: rest)) := by
  cases o with
  | none => exact lv_astoreN hx hb hdg h hn hl kk
  | some q => exact lv_astore hx hb hdg h hn hl kk
theorem nq_aald {q0 t0 q : Nat} {cA : ClassId} {C : String} {n i : Nat} (f : Nat → Option Nat) (hx : p.tables.exec = Jvm.exec) (hb : c.code = cc) (hK : va_K D cl tys s) (hP : va_P D cl ws H) (ha : ws[q0]? = some (q, .inl (cA, n, .inr (.inr (.inr (.inr f)))))) (ht : tys[t0]? = some (cA, .object C)) (hin : i < n) (hn : n < 2 ^ 31) (hdg : decode cc pc = .ok (.aaload, 1))
    (kk : W p l e R s m args below meth c H locs cells slots Q (F0 m (pc + 1) ls (va_rf (f i) :: rest))) : W p l e R s m args below meth c H locs cells slots Q (F0 m pc ls (.int (nI i) :: .ref q :: rest)) :=
  va_aldq hx hb hK hP q0 t0 ha ht (vp_in_nI hin hn) hdg (by rw [nI_clamp (Nat.lt_trans hin hn)]; exact kk)
theorem nq_aaldP {q0 t0 q : Nat} {cA : ClassId} {C : String} {n i z : Nat} (f : Nat → Nat) (hx : p.tables.exec = Jvm.exec) (hb : c.code = cc) (hK : va_K D cl tys s) (hP : va_P D cl ws H) (ha : ws[q0]? = some (q, .inl (cA, n, .inr (.inr (.inr (.inr (fun j => if j < z then some (f j) else none))))))) (ht : tys[t0]? = some (cA, .object C)) (hin : i < n) (hn : n < 2 ^ 31) (hz : i < z) (hdg : decode cc pc = .ok (.aaload, 1))
    (kk : W p l e R s m args below meth c H locs cells slots Q (F0 m (pc + 1) ls (.ref (f i) :: rest))) : W p l e R s m args below meth c H locs cells slots Q (F0 m pc ls (.int (nI i) :: .ref q :: rest)) :=
  nq_aald _ hx hb hK hP ha ht hin hn hdg (by simp only [if_pos hz]; exact kk)
theorem nv_max {own : String} {index : Nat} {x y : Nat} (hx : p.tables.exec = Jvm.exec) (hb : c.code = cc) (hml : c.maxLocals = ls.size) (hown : s.vm.findClass own = some m.cls) (hlink : (Cond.methodLink own index Lib.Math.max.name).before args s = true) (hstat : (Cond.static Lib.Math.max.name).before args s = true) (hini : (Cond.initialized "java/lang/Math").before args s = true) (hcode : (Cond.code Lib.Math.max.name Lib.Math.max.code 2 (some .int)).before args s = true)
    (hframes : 1 ≤ R.frames) (hlocals : (rest.map fun v => v.category).sum + 13 ≤ R.locals) (hc : cells ≤ R.cells) (hs : slots ≤ R.slots) (h1 : x < 2 ^ 31) (h2 : y < 2 ^ 31) (hdg : decode cc pc = .ok (.invokestatic index, 3))
    (kk : W p l e R s m args below meth c H locs cells slots Q (F0 m (pc + 3) ls (.int (nI (max x y)) :: rest))) : W p l e R s m args below meth c H locs cells slots Q (F0 m pc ls (.int (nI y) :: .int (nI x) :: rest)) :=
  va_mmax hx hb hml hown hlink hstat hini hcode hframes hlocals hc hs hdg (by
    by_cases h : nI x < nI y
    · rw [if_pos h]; rw [nI_ltI h1 h2] at h; rw [Nat.max_eq_right (Nat.le_of_lt h)] at kk; exact kk
    · rw [if_neg h]; rw [nI_ltI h1 h2] at h; rw [Nat.max_eq_left (Nat.not_lt.mp h)] at kk; exact kk)
theorem nv_min {own : String} {index : Nat} {x y : Nat} (hx : p.tables.exec = Jvm.exec) (hb : c.code = cc) (hml : c.maxLocals = ls.size) (hown : s.vm.findClass own = some m.cls) (hlink : (Cond.methodLink own index Lib.Math.min.name).before args s = true) (hstat : (Cond.static Lib.Math.min.name).before args s = true) (hini : (Cond.initialized "java/lang/Math").before args s = true) (hcode : (Cond.code Lib.Math.min.name Lib.Math.min.code 2 (some .int)).before args s = true)
    (hframes : 1 ≤ R.frames) (hlocals : (rest.map fun v => v.category).sum + 13 ≤ R.locals) (hc : cells ≤ R.cells) (hs : slots ≤ R.slots) (h1 : x < 2 ^ 31) (h2 : y < 2 ^ 31) (hdg : decode cc pc = .ok (.invokestatic index, 3))
    (kk : W p l e R s m args below meth c H locs cells slots Q (F0 m (pc + 3) ls (.int (nI (min x y)) :: rest))) : W p l e R s m args below meth c H locs cells slots Q (F0 m pc ls (.int (nI y) :: .int (nI x) :: rest)) :=
  va_mmin hx hb hml hown hlink hstat hini hcode hframes hlocals hc hs hdg (by
    by_cases h : nI y < nI x
    · rw [if_pos h]; rw [nI_ltI h2 h1] at h; rw [Nat.min_eq_right (Nat.le_of_lt h)] at kk; exact kk
    · rw [if_neg h]; rw [nI_ltI h2 h1] at h; rw [Nat.min_eq_left (Nat.not_lt.mp h)] at kk; exact kk)
end NVC
