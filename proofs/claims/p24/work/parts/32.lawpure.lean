/-! what the law's own small methods rest on -/
theorem rg_cl {x : Int32} {lo hi : Nat} (hl : lo < 2 ^ 31) (hh : hi < 2 ^ 31) (h : rg x lo hi) : lo ≤ cl x ∧ cl x ≤ hi := by
  obtain ⟨n, h1, h2, rfl⟩ := rg_of hl hh h
  rw [cl_nI (by omega)]
  exact ⟨h1, h2⟩
theorem okP_pl {f e : Int32} (h : okP f e) : plN f e < 60 := by
  have h1 := rg_cl (by decide) (by decide) h.1
  have h2 := rg_cl (by decide) (by decide) h.2
  unfold plN
  omega
theorem xI_same {σ σ' : St} {hd ol : Nat → Nat} (h1 : s_n σ' = s_n σ) (h2 : s_pr σ' = s_pr σ) (h3 : s_ev σ' = s_ev σ) (h : xI σ hd ol) : xI σ' hd ol := by
  intro q hq
  rw [h1, chn_congr (σ := σ) (σ' := σ') q (s_n σ) (fun r _ => by rw [h2, h3]; exact ⟨rfl, rfl⟩)]
  exact h q hq
theorem xJ_same {σ σ' : St} {hd ol : Nat → Nat} (h1 : s_n σ' = s_n σ) (h2 : s_cp σ' = s_cp σ) (h : xJ σ hd ol) : xJ σ' hd ol := by
  unfold xJ
  rw [h1, h2]
  exact h
theorem qt_k (σ : St) (k : Nat) (h9 : ¬ k = 9) (h2 : ¬ k = 2) : ∀ m : Nat, q_take σ m k = σ k
  | 0 => rfl
  | m + 1 => (tk1_k _ k h9 h2).trans (qt_k σ k h9 h2 m)
theorem qt_n (σ : St) (m : Nat) : s_n (q_take σ m) = s_n σ := congrFun (qt_k σ 1 (by decide) (by decide) m) 0
theorem qt_kk (σ : St) (m : Nat) : s_k (q_take σ m) = s_k σ := congrFun (qt_k σ 3 (by decide) (by decide) m) 0
theorem qt_pr (σ : St) (m : Nat) : s_pr (q_take σ m) = s_pr σ := qt_k σ 5 (by decide) (by decide) m
theorem qt_ev (σ : St) (m : Nat) : s_ev (q_take σ m) = s_ev σ := qt_k σ 6 (by decide) (by decide) m
theorem qt_tk (σ : St) : ∀ m : Nat, s_tk (q_take σ m) = s_tk σ + m
  | 0 => rfl
  | m + 1 => by
    show s_tk (q_take1 (q_take σ m)) = _
    rw [tk1_2, qt_tk σ m]
    omega
theorem qt_all {σ : St} {hd ol : Nat → Nat} (hI : sI σ) (hJ : xJ σ hd ol) : ∀ m : Nat, m ≤ s_n σ - s_tk σ → sI (q_take σ m) ∧ xJ (q_take σ m) hd ol
  | 0, _ => ⟨hI, hJ⟩
  | m + 1, h => by
    obtain ⟨h1, h2⟩ := qt_all hI hJ m (by omega)
    have h3 : s_tk (q_take σ m) < s_n (q_take σ m) := by rw [qt_tk, qt_n]; omega
    refine ⟨sI_take1 h1 h3, ?_⟩
    obtain ⟨g1, g2, g3⟩ := h2
    refine ⟨?_, ?_, ?_⟩
    · show ∀ j, hd j ≤ s_n (q_take1 (q_take σ m)); rw [tk1_1]; exact g1
    · show ∀ j, ol j ≤ s_n (q_take1 (q_take σ m)); rw [tk1_1]; exact g2
    · intro j
      show s_cp (q_take1 (q_take σ m)) j ≤ s_n (q_take1 (q_take σ m))
      rw [tk1_1, tk1_9]
      split
      · by_cases e : j = s_pr (q_take σ m) (s_tk (q_take σ m))
        · subst e; rw [uN_s]; exact h3
        · rw [uN_n e]; exact g3 j
      · exact g3 j
theorem xJ_serve {σ : St} {hd ol : Nat → Nat} {q : Nat} (h : xJ σ hd ol) : xJ (g_serve σ q) hd ol := h
theorem Met.ofWH {l : Launch} {y : MethodName} {ws ws' : List Cond} {rm : Room} {Pc : Array Value → State → Prop} {Qc : Array Value → State → Outcome → State → Prop} {mc ms : Nat} {free : Addr → Prop} {cc : ByteArray} {maxL : Nat} {ret : Option FieldType} {hh : List (Nat × Nat × Nat × Nat)}
    (hy : plainName y.cls = true) (hw : ws = Cond.codeWith y cc maxL ret hh :: ws')
    (body : ∀ p e s m args below meth c s₁, BodyLoose p l y (headSpec ws rm) cc maxL ret e s m args below meth c s₁ → c.maxLocals = maxL → Pc args s →
      W p l e (headSpec ws rm).room s m args below meth c s.heap [] 0 0 (MQ below Qc args s mc ms free) (entryFrame m args maxL)) : Met l y ws rm Pc Qc mc ms free := by
  refine MetFree.of_bodyS (code := cc) (maxLocals := maxL) (ret := ret) hy ?_ ?_
  · intro args s m h hn
    obtain ⟨m9, meth, c, hn9, h1, h2, h3, h4, -, h5, h6, -⟩ := Cond.codeWith_spec (atoms_spec (ws := ws) h _ (by rw [hw]; exact List.mem_cons_self))
    cases hn.symm.trans hn9
    exact ⟨meth, c, h1, h2, h3, h4, h5, h6⟩
  · intro p e s m args below meth c s₁ B hml hP _
    have hh0 : s₁.heap = s.heap := by rw [B.state]; rfl
    obtain ⟨t, a1, o, b1, b2, b3⟩ := body p e s m args below meth c s₁ B hml hP s₁ hh0 (Stand.of_body B)
    exact ⟨t, o, a1, b1, b2, ⟨b3.1, b3.2⟩⟩
theorem vP_kept {D : va_G} {cl : List vw_C} {ws : va_W} {H H1 : Heap} (h : va_P D cl ws H) (hk : ∀ q : Nat, q < H.size → H1[q]? = H[q]?) : va_P D cl ws H1 := va_P.kept h (fun k q hq => hk q.1 ((h k q hq).lt))
/-! the law's own tables: pairs by another number, the heap kept, rows over them -/
/-- the law's number of a pair -/
def pN (q : Nat) : Nat := q / 10 + 8 * (q % 10)
theorem pN_lt {q : Nat} (h : q < 60) : pN q < 78 := by unfold pN; omega
theorem pN_eq {a b : Nat} (ha : a < 60) (hb : b < 60) : pN a = pN b ↔ a = b := by unfold pN; omega
theorem pN_mod {q : Nat} (h : q < 60) : pN q % 8 = q / 10 := by unfold pN; omega
theorem pN_of {f e : Nat} (hf : f < 6) (he : e < 10) : pN (10 * f + e) = f + 8 * e := by unfold pN; omega
theorem pN_sa {q t : Nat} (h : q < 60) : (pN q + 128 * t) % 128 = pN q ∧ (pN q + 128 * t) / 128 = t := by
  have := pN_lt h
  omega
def l_p (σ : St) : Nat → Nat := fun j => pN (s_pr σ j)
def l_q (σ : St) : Nat → Nat := fun j => pN (s_sp σ j) + 128 * s_sa σ j
def l_g (σ : St) : Nat → Nat := fun j => if j = 0 then s_now σ else if j = 1 then s_n σ else if j = 2 then s_tk σ else if j = 3 then s_k σ else 0
/-- the law's eight arrays -/
abbrev lW (cI : ClassId) (la : Nat → Nat) (σ : St) : va_W :=
  [(la 0, .inl (cI, 60, .inl (fun j => nI (l_p σ j)))), (la 1, .inl (cI, 60, .inl (fun j => nI (s_ev σ j)))), (la 2, .inl (cI, 60, .inl (fun j => nI (s_ar σ j)))), (la 3, .inl (cI, 60, .inl (fun j => nI (s_vl σ j)))),
   (la 4, .inl (cI, 6, .inl (fun j => nI (s_lt σ j)))), (la 5, .inl (cI, 60, .inl (fun j => nI (l_q σ j)))), (la 6, .inl (cI, 60, .inl (fun j => eN (s_sv σ j)))), (la 7, .inl (cI, 4, .inl (fun j => nI (l_g σ j))))]
/-- those that find reads -/
abbrev lF (cI : ClassId) (la : Nat → Nat) (σ : St) : va_W :=
  [(la 0, .inl (cI, 60, .inl (fun j => nI (l_p σ j)))), (la 1, .inl (cI, 60, .inl (fun j => nI (s_ev σ j)))), (la 2, .inl (cI, 60, .inl (fun j => nI (s_ar σ j)))), (la 4, .inl (cI, 6, .inl (fun j => nI (s_lt σ j))))]
/-- what holds besides of the law's states -/
def lI (σ : St) : Prop := s_n σ ≤ 60 ∧ s_k σ ≤ 60 ∧ ∀ q, q < 60 → s_cp σ q = q_best σ q (s_now σ) (s_now σ) (s_tk σ)
abbrev XV : Type := St × (Nat → Nat) × (Nat → Nat) × (Nat → Nat) × (Nat → Nat)
abbrev lxW (cI cR cS : ClassId) (la : Nat → Nat) (x0 : Nat) (b : Nat → Nat) (u : XV) : va_W := lW cI la u.1 ++ xW cI cR cS x0 b u.2.1 u.2.2.1 u.2.2.2.1 u.2.2.2.2 u.1
def vOk (u : XV) : Prop := sI u.1 ∧ xI u.1 u.2.2.2.1 u.2.2.2.2 ∧ xJ u.1 u.2.2.2.1 u.2.2.2.2 ∧ lI u.1
/-- the heap has only grown -/
def kH (H0 H : Heap) : Prop := H0.size ≤ H.size ∧ ∀ q : Nat, q < H0.size → H[q]? = H0[q]?
theorem kH.rf {H : Heap} : kH H H := ⟨Nat.le_refl _, fun _ _ => rfl⟩
theorem kH.tr {H0 H H1 : Heap} (h : kH H0 H) (k : kH H H1) : kH H0 H1 := ⟨Nat.le_trans h.1 k.1, fun q hq => (k.2 q (Nat.lt_of_lt_of_le hq h.1)).trans (h.2 q hq)⟩
theorem kH.S {A : Nat → Prop} {H0 H : Heap} (h : kH H0 H) : va_S A H0 H [] := ⟨h.1, fun q hq _ => h.2 q hq, fun z hz => absurd hz List.not_mem_nil⟩
theorem kH.F {s t : State} {H : Heap} (h : kH s.heap H) (ht : t.heap = H) : va_F (fun _ => False) s t := ⟨by rw [ht]; exact h.1, fun q hq _ => by rw [ht]; exact h.2 q hq⟩
theorem kH.P {D : va_G} {cl : List vw_C} {ws : va_W} {H H1 : Heap} (k : kH H H1) (h : va_P D cl ws H) : va_P D cl ws H1 := vP_kept h k.2
/-- answers, and no old cell changed -/
def lK (post : Int32 → Prop) : Array Value → State → Outcome → State → Prop := fun _ st oc t => ∃ r : Int32, oc = .returned (some (.int r)) ∧ post r ∧ va_F (fun _ => False) st t
section NVK2
variable {p : Program} {l : Launch} {e : Env} {R : Room} {s : State} {m : MethodId} {args : Array Value} {below : List Frame} {meth : Method} {c : Code} {H : Heap} {locs : List Loc} {cells slots : Nat} {Q : State → Prop}
variable {cc : ByteArray} {pc : Nat} {ls : Array Slot} {rest st0 : List Value} {a : Array Value} {mc ms : Nat} {D : va_G} {cl : List vw_C} {tys : List (ClassId × FieldType)} {ws : va_W} {A : Nat → Prop} {H0 : Heap}
theorem nx_callK {post : Int32 → Prop} (hr : va_Run p l e R s m args below meth c H locs cells slots mc ms (F0 m pc ls st0) rest (lK post a) (fun _ => False))
    (kk : ∀ (r : Int32) (H1 : Heap), post r → kH H H1 → W p l e R s m args below meth c H1 locs (cells + mc) (slots + ms) Q (F0 m (pc + 3) ls (.int r :: rest))) : W p l e R s m args below meth c H locs cells slots Q (F0 m pc ls st0) := by
  intro T hT X
  obtain ⟨v, st₀, t, T', L, h0, X', hL, e1, e2, ⟨r, hv, hp, hz, hk⟩, st⟩ := hr T hT X
  cases hv
  rw [h0] at hz hk
  obtain ⟨t2, a1, b1⟩ := kk r T'.heap hp ⟨by rw [e1]; exact hz, fun q h => by rw [e1]; exact hk q h (fun z => z)⟩ T' rfl (Stand.forget X' (fun q h => (hL q h).elim))
  exact ⟨t2, st t2 a1, b1⟩
theorem nx_callKv {post : Int32 → Prop} {v : Int32} (hr : va_Run p l e R s m args below meth c H locs cells slots mc ms (F0 m pc ls st0) rest (lK post a) (fun _ => False)) (hv : ∀ r, post r → r = v)
    (kk : ∀ (H1 : Heap), kH H H1 → W p l e R s m args below meth c H1 locs (cells + mc) (slots + ms) Q (F0 m (pc + 3) ls (.int v :: rest))) : W p l e R s m args below meth c H locs cells slots Q (F0 m pc ls st0) :=
  nx_callK hr (fun r H1 hp hk => by rw [hv r hp]; exact kk H1 hk)
theorem nv_irem {x y : Nat} (hx : p.tables.exec = Jvm.exec) (hb : c.code = cc) (hdg : decode cc pc = .ok (.irem, 1)) (h1 : x < 2 ^ 31) (h0 : 0 < y) (h2 : y < 2 ^ 31) (k : W p l e R s m args below meth c H locs cells slots Q (F0 m (pc + 1) ls (.int (nI (x % y)) :: rest))) : W p l e R s m args below meth c H locs cells slots Q (F0 m pc ls (.int (nI y) :: .int (nI x) :: rest)) := lv_irem hx hb hdg (nI_ne0 h0 h2) (by rw [pk_rem h1 h0 h2]; exact k)
/-- an element that has another name -/
theorem nv_ialdE {q0 t0 q : Nat} {cA : ClassId} {n i v : Nat} (f : Nat → Nat) (hv : f i = v) (hx : p.tables.exec = Jvm.exec) (hb : c.code = cc) (hK : va_K D cl tys s) (hP : va_P D cl ws H) (ha : ws[q0]? = some (q, .inl (cA, n, .inl (fun j => nI (f j))))) (ht : tys[t0]? = some (cA, .int)) (hin : i < n) (hn : n < 2 ^ 31) (hdg : decode cc pc = .ok (.iaload, 1))
    (kk : W p l e R s m args below meth c H locs cells slots Q (F0 m (pc + 1) ls (.int (nI v) :: rest))) : W p l e R s m args below meth c H locs cells slots Q (F0 m pc ls (.int (nI i) :: .ref q :: rest)) :=
  nv_iald f hx hb hK hP ha ht hin hn hdg (by rw [hv]; exact kk)
theorem nv_ealdE {q0 t0 q : Nat} {cA : ClassId} {n i v : Nat} (f : Nat → Nat) (hv : f i = v) (hx : p.tables.exec = Jvm.exec) (hb : c.code = cc) (hK : va_K D cl tys s) (hP : va_P D cl ws H) (ha : ws[q0]? = some (q, .inl (cA, n, .inl (fun j => eN (f j))))) (ht : tys[t0]? = some (cA, .int)) (hin : i < n) (hn : n < 2 ^ 31) (hdg : decode cc pc = .ok (.iaload, 1))
    (kk : W p l e R s m args below meth c H locs cells slots Q (F0 m (pc + 1) ls (.int (eN v) :: rest))) : W p l e R s m args below meth c H locs cells slots Q (F0 m pc ls (.int (nI i) :: .ref q :: rest)) :=
  nv_eald f hx hb hK hP ha ht hin hn hdg (by rw [hv]; exact kk)
theorem eN_toInt {y : Nat} (h : y < 2 ^ 31) : (eN y).toInt = (y : Int) - 1 := by
  cases y with
  | zero => decide
  | succ y =>
    show (nI y).toInt = _
    rw [nI_toInt (by omega)]
    omega
/-- a number against one that may be -1 -/
theorem nv_geE {x y : Nat} {off : Int} {tgt : Nat} (hx : p.tables.exec = Jvm.exec) (hb : c.code = cc) (hdg : decode cc pc = .ok (.if_icmp .ge off, 3)) (ht : (pc : Int) + off = (tgt : Int)) (h1 : x < 2 ^ 31) (h2 : y < 2 ^ 31)
    (kt : y ≤ x + 1 → W p l e R s m args below meth c H locs cells slots Q (F0 m tgt ls rest)) (kf : ¬ y ≤ x + 1 → W p l e R s m args below meth c H locs cells slots Q (F0 m (pc + 3) ls rest)) : W p l e R s m args below meth c H locs cells slots Q (F0 m pc ls (.int (eN y) :: .int (nI x) :: rest)) :=
  lv_icmp_ge hx hb hdg ht (fun h => kt (by rw [Int32.le_iff_toInt_le, eN_toInt h2, nI_toInt h1] at h; omega)) (fun h => kf (fun z => h (by rw [Int32.le_iff_toInt_le, eN_toInt h2, nI_toInt h1]; omega)))
theorem nv_ltE {x : Nat} {off : Int} {tgt : Nat} (hx : p.tables.exec = Jvm.exec) (hb : c.code = cc) (hdg : decode cc pc = .ok (.ifCond .lt off, 3)) (ht : (pc : Int) + off = (tgt : Int)) (h1 : x < 2 ^ 31)
    (kt : x = 0 → W p l e R s m args below meth c H locs cells slots Q (F0 m tgt ls rest)) (kf : ¬ x = 0 → W p l e R s m args below meth c H locs cells slots Q (F0 m (pc + 3) ls rest)) : W p l e R s m args below meth c H locs cells slots Q (F0 m pc ls (.int (eN x) :: rest)) :=
  lv_if_lt hx hb hdg ht (fun h => kt (by rw [Int32.lt_iff_toInt_lt, eN_toInt h1, show (0 : Int32).toInt = 0 from by decide] at h; omega)) (fun h => kf (fun z => h (by rw [Int32.lt_iff_toInt_lt, eN_toInt h1, show (0 : Int32).toInt = 0 from by decide]; omega)))
end NVK2
