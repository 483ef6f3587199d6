/-! what the law's own small methods rest on -/
theorem rg_cl {x : Int32} {lo hi : Nat} (hl : lo < 2 ^ 31) (hh : hi < 2 ^ 31) (h : rg x lo hi) : lo ≤ cl x ∧ cl x ≤ hi := by
  obtain ⟨n, h1, h2, rfl⟩ := rg_of hl hh h
  rw [cl_nI (by omega)]
  exact ⟨h1, h2⟩
theorem okP_pl {f e : Int32} (h : okP f e) : plN f e < 60 := by
  have h1 := rg_cl (by decide) (by decide) h.1
  have h2 := rg_cl (by decide) (by decide) h.2
  unfold plN
  omega
theorem xI_same {σ σ' : St} {hd ol : Nat → Nat} (h1 : s_n σ' = s_n σ) (h2 : s_pr σ' = s_pr σ) (h3 : s_ev σ' = s_ev σ) (h : xI σ hd ol) : xI σ' hd ol := by
  intro q hq
  rw [h1, chn_congr (σ := σ) (σ' := σ') q (s_n σ) (fun r _ => by rw [h2, h3]; exact ⟨rfl, rfl⟩)]
  exact h q hq
theorem xJ_same {σ σ' : St} {hd ol : Nat → Nat} (h1 : s_n σ' = s_n σ) (h2 : s_cp σ' = s_cp σ) (h : xJ σ hd ol) : xJ σ' hd ol := by
  unfold xJ
  rw [h1, h2]
  exact h
theorem qt_k (σ : St) (k : Nat) (h9 : ¬ k = 9) (h2 : ¬ k = 2) : ∀ m : Nat, q_take σ m k = σ k
  | 0 => rfl
  | m + 1 => (tk1_k _ k h9 h2).trans (qt_k σ k h9 h2 m)
theorem qt_n (σ : St) (m : Nat) : s_n (q_take σ m) = s_n σ := congrFun (qt_k σ 1 (by decide) (by decide) m) 0
theorem qt_kk (σ : St) (m : Nat) : s_k (q_take σ m) = s_k σ := congrFun (qt_k σ 3 (by decide) (by decide) m) 0
theorem qt_pr (σ : St) (m : Nat) : s_pr (q_take σ m) = s_pr σ := qt_k σ 5 (by decide) (by decide) m
theorem qt_ev (σ : St) (m : Nat) : s_ev (q_take σ m) = s_ev σ := qt_k σ 6 (by decide) (by decide) m
theorem qt_tk (σ : St) : ∀ m : Nat, s_tk (q_take σ m) = s_tk σ + m
  | 0 => rfl
  | m + 1 => by
    show s_tk (q_take1 (q_take σ m)) = _
    rw [tk1_2, qt_tk σ m]
    omega
theorem qt_all {σ : St} {hd ol : Nat → Nat} (hI : sI σ) (hJ : xJ σ hd ol) : ∀ m : Nat, m ≤ s_n σ - s_tk σ → sI (q_take σ m) ∧ xJ (q_take σ m) hd ol
  | 0, _ => ⟨hI, hJ⟩
  | m + 1, h => by
    obtain ⟨h1, h2⟩ := qt_all hI hJ m (by omega)
    have h3 : s_tk (q_take σ m) < s_n (q_take σ m) := by rw [qt_tk, qt_n]; omega
    refine ⟨sI_take1 h1 h3, ?_⟩
    obtain ⟨g1, g2, g3⟩ := h2
    refine ⟨?_, ?_, ?_⟩
    · show ∀ j, hd j ≤ s_n (q_take1 (q_take σ m)); rw [tk1_1]; exact g1
    · show ∀ j, ol j ≤ s_n (q_take1 (q_take σ m)); rw [tk1_1]; exact g2
    · intro j
      show s_cp (q_take1 (q_take σ m)) j ≤ s_n (q_take1 (q_take σ m))
      rw [tk1_1, tk1_9]
      split
      · by_cases e : j = s_pr (q_take σ m) (s_tk (q_take σ m))
        · subst e; rw [uN_s]; exact h3
        · rw [uN_n e]; exact g3 j
      · exact g3 j
theorem xJ_serve {σ : St} {hd ol : Nat → Nat} {q : Nat} (h : xJ σ hd ol) : xJ (g_serve σ q) hd ol := h
/-- the class's state and the law's cell for an answer -/
abbrev XU : Type := St × (Nat → Nat) × (Nat → Nat) × (Nat → Nat) × (Nat → Nat) × (Nat → Int64)
abbrev xoW (cI cR cS cL : ClassId) (x0 : Nat) (b : Nat → Nat) (o0 : Nat) (u : XU) : va_W := (o0, .inl (cL, 1, .inr (.inl u.2.2.2.2.2))) :: xW cI cR cS x0 b u.2.1 u.2.2.1 u.2.2.2.1 u.2.2.2.2.1 u.1
def xOk (u : XU) : Prop := sI u.1 ∧ xI u.1 u.2.2.2.1 u.2.2.2.2.1 ∧ xJ u.1 u.2.2.2.1 u.2.2.2.2.1
def R3X (ok1 ok2 : Prop) (σ σ' : St) (an r : Int32) (u : XU) : Prop := ((ok1 ∧ ok2 ∧ u.1 = σ' ∧ r = nI 0 ∧ u.2.2.2.2.2 0 = an.toInt64) ∨ (¬ ok1 ∧ u.1 = σ ∧ r = nI 1) ∨ (ok1 ∧ ¬ ok2 ∧ u.1 = σ ∧ r = nI 2)) ∧ xOk u
def lPc (D : va_G) (cI cR cS cL : ClassId) (lo : Nat) (av : List Value) (G : Heap → Prop) : Array Value → State → Prop := va_Pc av (fun U => eE D cI cR cS lo U U.heap ∧ va_K D vwCl [(cL, .long)] U ∧ G U.heap)
theorem lPc_blind {D : va_G} {cI cR cS cL : ClassId} {lo : Nat} {av : List Value} {G : Heap → Prop} : FrameBlind (lPc D cI cR cS cL lo av G) := by
  intro a U g mk h
  exact ⟨h.1, eE.same (U := U) (V := U.calling g mk a) rfl h.2.1, va_K.moved (u := U) (U := U.calling g mk a) (Vm.Alike.refl U.vm) h.2.2.1, h.2.2.2⟩
theorem lPreS {D : va_G} {cI cR cS cL : ClassId} {lo : Nat} {s : State} {H : Heap} {locs : List Loc} {G : Heap → Prop} {As : List Value} (hE : eE D cI cR cS lo s s.heap) (hKL : va_K D vwCl [(cL, .long)] s) (hS : va_S (fun q => lo ≤ q) s.heap H locs) (hG : G H) : PreS s H (lPc D cI cR cS cL lo As G) As :=
  ⟨lPc_blind, fun U hU hW => ⟨rfl, hE.to hS hU hW, va_K.moved hW.alike hKL, by rw [hU]; exact hG⟩⟩
theorem Met.ofWH {l : Launch} {y : MethodName} {ws ws' : List Cond} {rm : Room} {Pc : Array Value → State → Prop} {Qc : Array Value → State → Outcome → State → Prop} {mc ms : Nat} {free : Addr → Prop} {cc : ByteArray} {maxL : Nat} {ret : Option FieldType} {hh : List (Nat × Nat × Nat × Nat)}
    (hy : plainName y.cls = true) (hw : ws = Cond.codeWith y cc maxL ret hh :: ws')
    (body : ∀ p e s m args below meth c s₁, BodyLoose p l y (headSpec ws rm) cc maxL ret e s m args below meth c s₁ → c.maxLocals = maxL → Pc args s →
      W p l e (headSpec ws rm).room s m args below meth c s.heap [] 0 0 (MQ below Qc args s mc ms free) (entryFrame m args maxL)) : Met l y ws rm Pc Qc mc ms free := by
  refine MetFree.of_bodyS (code := cc) (maxLocals := maxL) (ret := ret) hy ?_ ?_
  · intro args s m h hn
    obtain ⟨m9, meth, c, hn9, h1, h2, h3, h4, -, h5, h6, -⟩ := Cond.codeWith_spec (atoms_spec (ws := ws) h _ (by rw [hw]; exact List.mem_cons_self))
    cases hn.symm.trans hn9
    exact ⟨meth, c, h1, h2, h3, h4, h5, h6⟩
  · intro p e s m args below meth c s₁ B hml hP _
    have hh0 : s₁.heap = s.heap := by rw [B.state]; rfl
    obtain ⟨t, a1, o, b1, b2, b3⟩ := body p e s m args below meth c s₁ B hml hP s₁ hh0 (Stand.of_body B)
    exact ⟨t, o, a1, b1, b2, ⟨b3.1, b3.2⟩⟩
theorem upL0 {f : Nat → Int64} {v : Int64} : vp_updL f (nI 0).toNatClampNeg v 0 = v := by
  rw [show (nI 0).toNatClampNeg = 0 from by decide]
  exact pk_uLs
theorem vP_kept {D : va_G} {cl : List vw_C} {ws : va_W} {H H1 : Heap} (h : va_P D cl ws H) (hk : ∀ q : Nat, q < H.size → H1[q]? = H[q]?) : va_P D cl ws H1 := va_P.kept h (fun k q hq => hk q.1 ((h k q hq).lt))
