section
-- ===== PART A: goes FIRST, ahead of the names: the tables' words, and 'selects' of the private methods out of them =====
/-- a private method of a class that the tables say can be made, by its rows of tables_1 -/
def lw_okq (q : MethodName × Nat) : Prop := (q.1.cls ≠ "java/lang/invoke/MethodHandle" ∧ q.1.cls ≠ "java/lang/invoke/VarHandle") ∧ Cond.instantiable q.1.cls q.2 ∈ tables_1 ∧ Cond.privateMethod q.1 ∈ tables_1 ∧ Cond.instanceMethod q.1 ∈ tables_1
theorem lw_p0 : lw_okq (⟨"java/lang/Throwable", "fillInStackTrace", "(I)Ljava/lang/Throwable;"⟩, 6) := ⟨⟨by decide +kernel, by decide +kernel⟩, List.mem_of_getElem? (i := 116) (by decide +kernel), List.mem_of_getElem? (i := 114) (by decide +kernel), List.mem_of_getElem? (i := 115) (by decide +kernel)⟩
theorem lw_p1 : lw_okq (⟨"FeatureStore", "putInChain", "(LFeatureStore$Row;)V"⟩, 9) := ⟨⟨by decide +kernel, by decide +kernel⟩, List.mem_of_getElem? (i := 12) (by decide +kernel), List.mem_of_getElem? (i := 196) (by decide +kernel), List.mem_of_getElem? (i := 197) (by decide +kernel)⟩
theorem lw_p2 : lw_okq (⟨"FeatureStore", "rowOrNull", "(I)LFeatureStore$Row;"⟩, 9) := ⟨⟨by decide +kernel, by decide +kernel⟩, List.mem_of_getElem? (i := 12) (by decide +kernel), List.mem_of_getElem? (i := 230) (by decide +kernel), List.mem_of_getElem? (i := 231) (by decide +kernel)⟩
theorem lw_p3 : lw_okq (⟨"FeatureStore", "takeIn", "(LFeatureStore$Row;)V"⟩, 9) := ⟨⟨by decide +kernel, by decide +kernel⟩, List.mem_of_getElem? (i := 12) (by decide +kernel), List.mem_of_getElem? (i := 234) (by decide +kernel), List.mem_of_getElem? (i := 235) (by decide +kernel)⟩
theorem lw_p4 : lw_okq (⟨"FeatureStore", "tell", "(II)I"⟩, 9) := ⟨⟨by decide +kernel, by decide +kernel⟩, List.mem_of_getElem? (i := 12) (by decide +kernel), List.mem_of_getElem? (i := 246) (by decide +kernel), List.mem_of_getElem? (i := 247) (by decide +kernel)⟩
theorem lw_p5 : lw_okq (⟨"FeatureStore", "numberUnlessExpired", "(LFeatureStore$Row;I)I"⟩, 9) := ⟨⟨by decide +kernel, by decide +kernel⟩, List.mem_of_getElem? (i := 12) (by decide +kernel), List.mem_of_getElem? (i := 250) (by decide +kernel), List.mem_of_getElem? (i := 251) (by decide +kernel)⟩
theorem lw_p6 : lw_okq (⟨"FeatureStore", "requireRow", "(I)LFeatureStore$Row;"⟩, 9) := ⟨⟨by decide +kernel, by decide +kernel⟩, List.mem_of_getElem? (i := 12) (by decide +kernel), List.mem_of_getElem? (i := 297) (by decide +kernel), List.mem_of_getElem? (i := 298) (by decide +kernel)⟩
theorem lw_p7 : lw_okq (⟨"FeatureStore", "requireServing", "(I)LFeatureStore$Serving;"⟩, 9) := ⟨⟨by decide +kernel, by decide +kernel⟩, List.mem_of_getElem? (i := 12) (by decide +kernel), List.mem_of_getElem? (i := 331) (by decide +kernel), List.mem_of_getElem? (i := 332) (by decide +kernel)⟩
theorem lw_p8 : lw_okq (⟨"FeatureStore", "find", "(IIII)I"⟩, 9) := ⟨⟨by decide +kernel, by decide +kernel⟩, List.mem_of_getElem? (i := 12) (by decide +kernel), List.mem_of_getElem? (i := 343) (by decide +kernel), List.mem_of_getElem? (i := 344) (by decide +kernel)⟩
def lw_privs_1 : List (MethodName × Nat) := [(⟨"java/lang/Throwable", "fillInStackTrace", "(I)Ljava/lang/Throwable;"⟩, 6), (⟨"FeatureStore", "putInChain", "(LFeatureStore$Row;)V"⟩, 9), (⟨"FeatureStore", "rowOrNull", "(I)LFeatureStore$Row;"⟩, 9), (⟨"FeatureStore", "takeIn", "(LFeatureStore$Row;)V"⟩, 9), (⟨"FeatureStore", "tell", "(II)I"⟩, 9), (⟨"FeatureStore", "numberUnlessExpired", "(LFeatureStore$Row;I)I"⟩, 9), (⟨"FeatureStore", "requireRow", "(I)LFeatureStore$Row;"⟩, 9), (⟨"FeatureStore", "requireServing", "(I)LFeatureStore$Serving;"⟩, 9), (⟨"FeatureStore", "find", "(IIII)I"⟩, 9)]
theorem lw_r1 : ∀ q ∈ lw_privs_1, lw_okq q := List.forall_mem_cons.mpr ⟨lw_p0, List.forall_mem_cons.mpr ⟨lw_p1, List.forall_mem_cons.mpr ⟨lw_p2, List.forall_mem_cons.mpr ⟨lw_p3, List.forall_mem_cons.mpr ⟨lw_p4, List.forall_mem_cons.mpr ⟨lw_p5, List.forall_mem_cons.mpr ⟨lw_p6, List.forall_mem_cons.mpr ⟨lw_p7, List.forall_mem_cons.mpr ⟨lw_p8, fun _ h => absurd h List.not_mem_nil⟩⟩⟩⟩⟩⟩⟩⟩⟩
def lw_privs : List (MethodName × Nat) := lw_privs_1
def lw_tbl : List Cond := k2_sels lw_privs ++ tables_1
theorem lw_privs_ok : ∀ q ∈ lw_privs, lw_okq q := lw_r1
end
section
/-! ===== BEGIN words of one list among another's, by their places ===== -/
theorem goodIn_r {big : List Cond} (ws : List Cond) (ps : List Nat) (hp : ws = ps.filterMap (fun i => big[i]?)) (h : ws.all goodWord = true) : GoodIn big ws := by
  intro w hw
  have h1 := List.all_eq_true.mp h w hw
  rw [hp] at hw
  obtain ⟨i, -, hi⟩ := List.mem_filterMap.mp hw
  have hm : w ∈ big := by first | exact List.mem_of_getElem? hi | exact List.getElem?_mem hi
  exact ⟨hm, good_of_word h1⟩
theorem goodIn_app {big a b : List Cond} (ha : GoodIn big a) (hb : GoodIn big b) : GoodIn big (a ++ b) := fun w h => (List.mem_append.mp h).elim (ha w) (hb w)
theorem goodIn_ca {big a b : List Cond} {c : Cond} (ha : GoodIn big (c :: a)) (hb : GoodIn big b) : GoodIn big (c :: (a ++ b)) := fun w h => (List.mem_cons.mp h).elim (fun e => ha w (List.mem_cons.mpr (Or.inl e))) (fun h => (List.mem_append.mp h).elim (fun h => ha w (List.mem_cons.mpr (Or.inr h))) (hb w))
theorem goodIn_sub {big ws : List Cond} (hm : ∀ w ∈ ws, w ∈ big) (h : ws.all goodWord = true) : GoodIn big ws := fun w hw => ⟨hm w hw, good_of_word (List.all_eq_true.mp h w hw)⟩
/-! ===== END ===== -/

/-! ===== BEGIN exceptions that leave a method, and their catching by the caller (launches without stack traces) ===== -/
section VXA
/-! The laws vx_back, vx_callV, vx_callS, vx_callSW, vx_throw0, vx_throwS follow proofs of the library, with one case more: JvmDerived/Free/Laws.lean (Back.of_free), Shelf42/LK1.lean (callV, callS), Shelf/KitTraced.lean (throwNew0V, throwNewS). -/
/-- where a method has thrown q: the class by its name, the cell, what was written, the world -/
def vx_T (XC : String → State → State → Prop) (st : State) (q : Addr) (t : State) (mc ms : Nat) (free : Addr → Prop) : Prop :=
  ∃ (E : String) (ce : Cell) (L : List Loc), XC E st t ∧ t.heap[q]? = some ce ∧ ce.vm = .none ∧ st.vm.findClass E = some ce.cls ∧ st.WarmedH t.vm ∧ st.sameButNew ({ t with vm := st.vm } : State) L mc ms ∧ ∀ z ∈ L, free z.base
def vx_Q (Qc : Array Value → State → Outcome → State → Prop) (XC : String → State → State → Prop) (mc ms : Nat) (free : Addr → Prop) : Array Value → State → Outcome → State → Prop := fun a st o t =>
  (Qc a st o t ∧ ∃ L, FrameEnd st o t L mc ms ∧ ∀ q ∈ L, free q.base) ∨ ∃ q, o = .threw q ∧ vx_T XC st q t mc ms free
/-- a callee that returns or throws -/
def vx_Met (l : Launch) (y : MethodName) (ws : List Cond) (rm : Room) (Pc : Array Value → State → Prop) (Qc : Array Value → State → Outcome → State → Prop) (XC : String → State → State → Prop) (mc ms : Nat) (free : Addr → Prop) : Prop :=
  MetFree l y (headSpec ws rm) Pc (fun _ _ _ _ _ => True) (vx_Q Qc XC mc ms free)
def vx_Post (XC : String → State → State → Prop) (mc ms : Nat) (free : Addr → Prop) : Pt → Array Value → Addr → Pt → Prop := fun A a q B =>
  ∃ (g : JFrame) (mk : MethodId) (t : State) (L : List Loc) (E : String) (ce : Cell), B.U.heap = t.heap ∧ B.U.vm = t.vm ∧ XC E (A.U.calling g mk a) t ∧ t.heap[q]? = some ce ∧ ce.vm = .none ∧ A.U.vm.findClass E = some ce.cls ∧ B.locs = A.locs ++ L ∧ (∀ z ∈ L, free z.base) ∧ B.cells = A.cells + mc ∧ B.slots = A.slots + ms
def vx_Back (l : Launch) (R : Room) (p : Program) (e : Env) (below : List Frame) (s : State) (sargs : Array Value) (y : MethodName) (len W9 : Nat)
    (Pre : Pt → Array Value → Prop) (Post : Pt → Array Value → Option Value → Pt → Prop) (PostX : Pt → Array Value → Addr → Pt → Prop) : Prop :=
  ∀ (m : MethodId) (meth : Method) (c : Code) (A : Pt) (g : JFrame) (ig : Instr) (mk : MethodId) (a : Array Value),
    Stand p l e R s m sargs below meth c A.U A.locs A.cells A.slots → g.method = m → g.locals.size = c.maxLocals → decode c.code g.pc = .ok (ig, len) →
    2 * g.monitorRoom + (g.stack.map fun v => v.category).sum ≤ W9 → A.U.methodNamed? y = some mk → Pre A a →
    (∃ (v : Option Value) (B : Pt), Stand p l e R s m sargs below meth c B.U B.locs B.cells B.slots ∧ Post A a v B ∧
      Steps p.tables e below (doInvoke e (A.U.setTop g) [] mk a).1 (B.U.setTop { g with pc := g.pc + len, stack := v.toList ++ g.stack })) ∨
    (∃ (q : Addr) (B : Pt), Stand p l e R s m sargs below meth c B.U B.locs B.cells B.slots ∧ PostX A a q B ∧
      Steps p.tables e below (doInvoke e (A.U.setTop g) [] mk a).1 ((B.U.setTop g).pushFrame (.throwing q)))
section Payer
variable {l : Launch} {R : Room} {p : Program} {e : Env} {below : List Frame} {s : State} {sargs : Array Value} {y : MethodName} {len W9 : Nat}
theorem vx_back {ws : List Cond} {rm : Room} {Pc : Array Value → State → Prop} {Qc : Array Value → State → Outcome → State → Prop} {XC : String → State → State → Prop} {mc ms : Nat} {free : Addr → Prop} {bytes : ByteArray} {maxL : Nat} {ret : Option FieldType}
    (hM : vx_Met l y ws rm Pc Qc XC mc ms free) (hblind : FrameBlind Pc) (hrc : rm.cells = mc) (hrs : rm.slots = ms)
    (hframes : rm.frames + 1 ≤ R.frames) (hlocals : W9 + (maxL + 11) + rm.locals ≤ R.locals)
    (hws : ∀ w ∈ ws, ∀ a' U, s.WarmedH U.vm → w.before a' U = true) (hcode : Cond.code y bytes maxL ret ∈ ws) (hinit : ∀ a' U, s.WarmedH U.vm → (Cond.initialized y.cls).before a' U = true) :
    vx_Back l R p e below s sargs y len W9 (PreOf R mc ms Pc) (PostOf Qc mc ms free) (vx_Post XC mc ms free) := by
  intro m meth c A g ig mk a X hg hsize hdg hW hn hp
  have h1 : (headSpec ws rm).pre.before a A.U = true := atoms_intro fun w hw => hws w hw _ _ X.warmed
  have h2 : (Cond.code y bytes maxL ret).before a A.U = true := hws _ hcode _ _ X.warmed
  have h3 : (Cond.initialized y.cls).before a A.U = true := hinit _ _ X.warmed
  have h4 : A.cells + (headSpec ws rm).room.cells ≤ R.cells := by rw [show (headSpec ws rm).room.cells = mc from hrc]; exact hp.1
  have h5 : A.slots + (headSpec ws rm).room.slots ≤ R.slots := by rw [show (headSpec ws rm).room.slots = ms from hrs]; exact hp.2.1
  have hPc : Pc a (A.U.calling g mk a) := hblind _ _ _ _ hp.2.2
  obtain ⟨U, Ls, c0, s0⟩ := A
  dsimp only [Pt.U, Pt.locs, Pt.cells, Pt.slots] at h1 h2 h3 h4 h5 X hn hPc ⊢
  obtain ⟨methY, cY, hmY, hcY, -, hlY, -, -, -, -⟩ := Cond.code_spec hn h2
  obtain ⟨kY, hkY, -⟩ := className_of_methodNamed hn
  have hinitY : kY.init = .initialized := Cond.initialized_spec (findClass_of_methodNamed hn) hkY h3
  have h : At U g.method c below := by rw [hg]; exact X.here
  have hlocals9 : W9 + (maxL + 11) + (headSpec ws rm).room.locals ≤ R.locals := hlocals
  have happ : (headSpec ws rm).appliesLoose y e.platform (U.calling g mk a) = true :=
    Spec.appliesLoose_calling (g := g) h hdg hn hkY hinitY
      (X.room_calling (g := g) (R' := (headSpec ws rm).room) hsize hmY hcY hframes (by rw [hlY]; omega) h4 h5) h1
  obtain ⟨mid, hmid⟩ := h.above
  have hfr : (U.setTop g).frames = (.java g :: mid) ++ below := by rw [State.frames_setTop' g h.top, hmid]; rfl
  obtain ⟨o, s₂, hsteps, -, hend, hq⟩ := Steps.callFree hM p X.admits X.cas X.clock (acts := []) hfr happ hPc trivial
  have hq' : vx_Q Qc XC mc ms free a (U.calling g mk a) o s₂ := hq
  rw [State.frames_setTop' g h.top] at hend
  obtain ⟨g₀, hg0⟩ := Option.isSome_iff_exists.mp h.top
  obtain ⟨r, hr⟩ := State.topJava?_eq_some.mp hg0
  have hr' : (({ U with heap := s₂.heap, slotsUsed := s₂.slotsUsed } : State).setVm s₂.vm).frames = .java g₀ :: r := hr
  rcases hq' with ⟨hqc, L, hfe, hL⟩ | ⟨q, rfl, E, ce, L, hx, hce, hcv, hcl, hW₂, hsm, hL⟩
  · obtain ⟨⟨v, rfl⟩, hW₂, e2, q2, q3, q4, q5, q6⟩ := id hfe
    have e3 : s₂ = ({ (U.calling g mk a).setFrames s₂.frames with heap := s₂.heap, slotsUsed := s₂.slotsUsed } : State).setVm s₂.vm := by
      have : s₂ = ({ s₂ with vm := (U.calling g mk a).vm } : State).setVm s₂.vm := rfl
      rw [e2] at this
      exact this
    obtain ⟨c₂, i₂, len₂, hc₂, hd₂, hf₂⟩ := hend
    have hW' : U.WarmedH s₂.vm := hW₂
    have hcc : c₂ = c := by
      have h1 : s₂.code? g.method = U.code? g.method := by
        rw [State.code?_eq, State.code?_eq, hW'.alike.method?]
      exact Option.some.inj (hc₂.symm.trans (h1.trans h.code))
    subst hcc
    have hlen : len₂ = len := by rw [hdg] at hd₂; cases hd₂; rfl
    subst hlen
    have hs₂ : s₂ = (({ U with heap := s₂.heap, slotsUsed := s₂.slotsUsed } : State).setVm s₂.vm).setTop { g with pc := g.pc + len₂, stack := v.toList ++ g.stack } := by
      refine e3.trans ?_
      rw [hf₂, State.calling_eq h.top, State.setFrames_setFrames, State.setTop_of_frames _ hr', hr]
      rfl
    have hsame : U.sameButNew ({ U with heap := s₂.heap, slotsUsed := s₂.slotsUsed } : State) L mc ms := by
      refine ⟨?_, q2, q3, q4, q5, q6⟩
      obtain ⟨t, ht, -⟩ := State.frames_cons hr
      show ({ U with heap := s₂.heap, slotsUsed := s₂.slotsUsed } : State) = { U.setFrames U.frames with heap := s₂.heap, slotsUsed := s₂.slotsUsed }
      rw [State.setFrames_self ht]
    subst hg
    refine Or.inl ⟨v, ⟨(({ U with heap := s₂.heap, slotsUsed := s₂.slotsUsed } : State).setVm s₂.vm), Ls ++ L, c0 + mc, s0 + ms⟩,
      ⟨X.admits, X.cas, X.clock, X.frames, X.room, X.hears, X.method, X.code, (X.here.setHeapUsed s₂.heap s₂.slotsUsed).setVm hW'.alike, X.tail, State.WarmedH.trans X.warmed hW', X.limits, X.bytes, X.same.trans (hsame.setVm s.vm)⟩,
      ⟨g, mk, s₂, L, rfl, rfl, hqc, rfl, hL, rfl, rfl⟩, ?_⟩
    show Steps p.tables e below _ ((({ U with heap := s₂.heap, slotsUsed := s₂.slotsUsed } : State).setVm s₂.vm).setTop { g with pc := g.pc + len₂, stack := v.toList ++ g.stack })
    rw [← hs₂]
    exact hsteps
  · obtain ⟨e2, q2, q3, q4, q5, q6⟩ := id hsm
    have e3 : s₂ = ({ (U.calling g mk a).setFrames s₂.frames with heap := s₂.heap, slotsUsed := s₂.slotsUsed } : State).setVm s₂.vm := by
      have : s₂ = ({ s₂ with vm := (U.calling g mk a).vm } : State).setVm s₂.vm := rfl
      rw [e2] at this
      exact this
    have hf₂ : s₂.frames = .throwing q :: .java g :: U.frames.tail := hend
    have hW' : U.WarmedH s₂.vm := hW₂
    have hs₂ : s₂ = ((({ U with heap := s₂.heap, slotsUsed := s₂.slotsUsed } : State).setVm s₂.vm).setTop g).pushFrame (.throwing q) := by
      refine e3.trans ?_
      rw [hf₂, State.calling_eq h.top, State.setFrames_setFrames, State.pushFrame, State.frames_setTop _ hr', State.setTop_of_frames _ hr', State.setFrames_setFrames, hr]
      rfl
    have hsame : U.sameButNew ({ U with heap := s₂.heap, slotsUsed := s₂.slotsUsed } : State) L mc ms := by
      refine ⟨?_, q2, q3, q4, q5, q6⟩
      obtain ⟨t, ht, -⟩ := State.frames_cons hr
      show ({ U with heap := s₂.heap, slotsUsed := s₂.slotsUsed } : State) = { U.setFrames U.frames with heap := s₂.heap, slotsUsed := s₂.slotsUsed }
      rw [State.setFrames_self ht]
    subst hg
    refine Or.inr ⟨q, ⟨(({ U with heap := s₂.heap, slotsUsed := s₂.slotsUsed } : State).setVm s₂.vm), Ls ++ L, c0 + mc, s0 + ms⟩,
      ⟨X.admits, X.cas, X.clock, X.frames, X.room, X.hears, X.method, X.code, (X.here.setHeapUsed s₂.heap s₂.slotsUsed).setVm hW'.alike, X.tail, State.WarmedH.trans X.warmed hW', X.limits, X.bytes, X.same.trans (hsame.setVm s.vm)⟩,
      ⟨g, mk, s₂, L, E, ce, rfl, rfl, hx, hce, hcv, hcl, rfl, hL, rfl, rfl⟩, ?_⟩
    show Steps p.tables e below _ (((({ U with heap := s₂.heap, slotsUsed := s₂.slotsUsed } : State).setVm s₂.vm).setTop g).pushFrame (.throwing q))
    rw [← hs₂]
    exact hsteps
end Payer
section Calls
variable {p : Program} {l : Launch} {e : Env} {R : Room} {s : State} {m : MethodId} {args : Array Value} {below : List Frame} {meth : Method} {c : Code} {T : State} {locs : List Loc} {cells slots : Nat}
theorem vx_callV (X : Stand p l e R s m args below meth c T locs cells slots) (hexec : p.tables.exec = Jvm.exec) {own C : String} {index : Nat} {y : MethodName} {bytes : ByteArray} {maxL : Nat} {ret : Option FieldType}
    (hown : s.vm.findClass own = some m.cls) (hlink : (Cond.methodLink own index y).before args s = true) (hinst : (Cond.instanceMethod y).before args s = true) (hsel : (Cond.selects C y y).before args s = true)
    (hcode : (Cond.code y bytes maxL ret).before args s = true) (hy : y.cls ≠ "java/lang/invoke/MethodHandle" ∧ y.cls ≠ "java/lang/invoke/VarHandle")
    {W9 : Nat} {Pre : Pt → Array Value → Prop} {Post : Pt → Array Value → Option Value → Pt → Prop} {PostX : Pt → Array Value → Addr → Pt → Prop} (hK : vx_Back l R p e below s args y 3 W9 Pre Post PostX)
    {b : Addr} {cellB : Cell} (hcell : T.heap[b]? = some cellB) (hobj : cellB.vm.isStatics = false) (hcls : s.vm.findClass C = some cellB.cls)
    {g : JFrame} (hg : g.method = m) (hsize : g.locals.size = c.maxLocals) {argsL rest : List Value} (hlen : ∀ sig, parseMethodDescriptor y.desc = some sig → argsL.length = sig.parameters.length)
    (hstack : g.stack = argsL.reverse ++ .ref b :: rest) (hW : 2 * g.monitorRoom + (rest.map fun v => v.category).sum ≤ W9) (hdg : decode c.code g.pc = .ok (.invokevirtual index, 3))
    (hpre : ∀ vm₁, s.WarmedH vm₁ → Pre ⟨T.setVm vm₁, locs, cells, slots⟩ (Value.ref b :: argsL).toArray) :
    (∃ (v : Option Value) (vm₁ : Vm) (B : Pt), s.WarmedH vm₁ ∧ Stand p l e R s m args below meth c B.U B.locs B.cells B.slots ∧ Post ⟨T.setVm vm₁, locs, cells, slots⟩ (Value.ref b :: argsL).toArray v B ∧
      ∀ target, Steps p.tables e below (B.U.setTop { g with pc := g.pc + 3, stack := v.toList ++ rest }) target → Steps p.tables e below (T.setTop g) target) ∨
    (∃ (q : Addr) (vm₁ : Vm) (B : Pt), s.WarmedH vm₁ ∧ Stand p l e R s m args below meth c B.U B.locs B.cells B.slots ∧ PostX ⟨T.setVm vm₁, locs, cells, slots⟩ (Value.ref b :: argsL).toArray q B ∧
      Steps p.tables e below (T.setTop g) ((B.U.setTop { g with stack := rest }).pushFrame (.throwing q))) := by
  obtain ⟨mk, methM, hnamed, hmethM, hstM, habM⟩ := Cond.instanceMethod_spec hinst
  obtain ⟨methM', cM, hmethM', -, -, -, -, -, -, hsigM⟩ := Cond.code_spec hnamed hcode
  cases hmethM.symm.trans hmethM'
  obtain ⟨c2, r2, m2, q1, q2, q3, q4, kP, hkP, hkPi⟩ := Cond.selects_spec hsel
  cases hcls.symm.trans q1
  cases (State.methodFound?_of_named hnamed hy).symm.trans q2
  cases hnamed.symm.trans q3
  have hselP : selectMethod e.platform s.vm cellB.cls mk = .method mk := by rw [Launch.admits_selectMethod X.admits]; exact q4
  obtain ⟨vm₁, X₁, hstep₁⟩ := X.invokevirtual hexec hown hlink hnamed hmethM hstM hkP hkPi hy (a := b) (cell := cellB) hcell
    (fun z h => by rw [h] at hobj; cases hobj) hselP hmethM habM hkP hkPi (g := g) hg (argsL := argsL) (rest := rest) (hlen _ hsigM) hstack hdg
  rcases hK m meth c ⟨T.setVm vm₁, locs, cells, slots⟩ { g with stack := rest } (.invokevirtual index) mk (Value.ref b :: argsL).toArray X₁ hg hsize hdg hW (X₁.named hnamed) (hpre vm₁ X₁.warmed) with ⟨v, B, X', hpost, hsteps⟩ | ⟨q, B, X', hpost, hsteps⟩
  · exact Or.inl ⟨v, vm₁, B, X₁.warmed, X', hpost, fun target h => hstep₁ _ fun acts => by rw [doInvoke_state]; exact hsteps.trans h⟩
  · exact Or.inr ⟨q, vm₁, B, X₁.warmed, X', hpost, hstep₁ _ fun acts => by rw [doInvoke_state]; exact hsteps⟩
theorem vx_callS (X : Stand p l e R s m args below meth c T locs cells slots) (hexec : p.tables.exec = Jvm.exec) {own : String} {index : Nat} {y : MethodName} {bytes : ByteArray} {maxL : Nat} {ret : Option FieldType}
    (hown : s.vm.findClass own = some m.cls) (hlink : (Cond.methodLink own index y).before args s = true) (hstat : (Cond.static y).before args s = true) (hinit : (Cond.initialized y.cls).before args s = true)
    (hcode : (Cond.code y bytes maxL ret).before args s = true) (hy : y.cls ≠ "java/lang/invoke/MethodHandle" ∧ y.cls ≠ "java/lang/invoke/VarHandle")
    {W9 : Nat} {Pre : Pt → Array Value → Prop} {Post : Pt → Array Value → Option Value → Pt → Prop} {PostX : Pt → Array Value → Addr → Pt → Prop} (hK : vx_Back l R p e below s args y 3 W9 Pre Post PostX)
    {g : JFrame} (hg : g.method = m) (hsize : g.locals.size = c.maxLocals) {argsL rest : List Value} (hlen : ∀ sig, parseMethodDescriptor y.desc = some sig → argsL.length = sig.parameters.length)
    (hstack : g.stack = argsL.reverse ++ rest) (hW : 2 * g.monitorRoom + (rest.map fun v => v.category).sum ≤ W9) (hdg : decode c.code g.pc = .ok (.invokestatic index, 3))
    (hpre : ∀ vm₁, s.WarmedH vm₁ → Pre ⟨T.setVm vm₁, locs, cells, slots⟩ argsL.toArray) :
    (∃ (v : Option Value) (vm₁ : Vm) (B : Pt), s.WarmedH vm₁ ∧ Stand p l e R s m args below meth c B.U B.locs B.cells B.slots ∧ Post ⟨T.setVm vm₁, locs, cells, slots⟩ argsL.toArray v B ∧
      ∀ target, Steps p.tables e below (B.U.setTop { g with pc := g.pc + 3, stack := v.toList ++ rest }) target → Steps p.tables e below (T.setTop g) target) ∨
    (∃ (q : Addr) (vm₁ : Vm) (B : Pt), s.WarmedH vm₁ ∧ Stand p l e R s m args below meth c B.U B.locs B.cells B.slots ∧ PostX ⟨T.setVm vm₁, locs, cells, slots⟩ argsL.toArray q B ∧
      Steps p.tables e below (T.setTop g) ((B.U.setTop { g with stack := rest }).pushFrame (.throwing q))) := by
  obtain ⟨mk, hnamed⟩ := Cond.code_named hcode
  obtain ⟨methM, cM, hmethM, -, -, -, -, -, -, hsigM⟩ := Cond.code_spec hnamed hcode
  have hstatic : methM.isStatic = true := Cond.static_spec hnamed hmethM hstat
  obtain ⟨kP, hkP, -⟩ := className_of_methodNamed hnamed
  have hinitP : kP.init = .initialized := Cond.initialized_spec (findClass_of_methodNamed hnamed) hkP hinit
  obtain ⟨vm₁, X₁, hstep₁⟩ := X.invokestatic hexec hown hlink hnamed hmethM hstatic hkP hinitP hy (g := g) hg (argsL := argsL) (rest := rest) (hlen _ hsigM) hstack hdg
  rcases hK m meth c ⟨T.setVm vm₁, locs, cells, slots⟩ { g with stack := rest } (.invokestatic index) mk argsL.toArray X₁ hg hsize hdg hW (X₁.named hnamed) (hpre vm₁ X₁.warmed) with ⟨v, B, X', hpost, hsteps⟩ | ⟨q, B, X', hpost, hsteps⟩
  · exact Or.inl ⟨v, vm₁, B, X₁.warmed, X', hpost, fun target h => hstep₁ _ fun acts => by rw [doInvoke_state]; exact hsteps.trans h⟩
  · exact Or.inr ⟨q, vm₁, B, X₁.warmed, X', hpost, hstep₁ _ fun acts => by rw [doInvoke_state]; exact hsteps⟩
end Calls
theorem vx_cls {s : State} {T : State} {vm₁ : Vm} {E : String} {k : ClassId} (hW : s.WarmedH vm₁) (h : (T.setVm vm₁).vm.findClass E = some k) : s.vm.findClass E = some k := by
  have h1 : vm₁.findClass E = some k := h
  rw [hW.alike.findClass] at h1
  exact h1
/-- the method's frame g, with q thrown over it -/
def vx_W (p : Program) (l : Launch) (e : Env) (R : Room) (s : State) (m : MethodId) (args : Array Value) (below : List Frame) (meth : Method) (c : Code) (H : Heap) (locs : List Loc) (cells slots : Nat) (Q : State → Prop) (g : JFrame) (q : Addr) : Prop :=
  ∀ T : State, T.heap = H → Stand p l e R s m args below meth c T locs cells slots → ∃ t, Steps p.tables e below ((T.setTop g).pushFrame (.throwing q)) t ∧ Q t
def vx_Run (p : Program) (l : Launch) (e : Env) (R : Room) (s : State) (m : MethodId) (args : Array Value) (below : List Frame) (meth : Method) (c : Code) (H : Heap) (locs : List Loc) (cells slots mc ms : Nat) (g : JFrame) (rest : List Value) (Qa : State → Outcome → State → Prop) (XC : String → State → State → Prop) (free : Addr → Prop) : Prop :=
  ∀ T : State, T.heap = H → Stand p l e R s m args below meth c T locs cells slots →
    (∃ (v : Option Value) (st₀ t T' : State) (L : List Loc), st₀.heap = H ∧ Stand p l e R s m args below meth c T' (locs ++ L) (cells + mc) (slots + ms) ∧ (∀ q ∈ L, free q.base) ∧ T'.heap = t.heap ∧ T'.vm = t.vm ∧ Qa st₀ (.returned v) t ∧
      Goes p e below T g T' { g with pc := g.pc + 3, stack := v.toList ++ rest }) ∨
    (∃ (q : Addr) (st₀ t T' : State) (L : List Loc) (E : String) (ce : Cell), st₀.heap = H ∧ Stand p l e R s m args below meth c T' (locs ++ L) (cells + mc) (slots + ms) ∧ (∀ z ∈ L, free z.base) ∧ T'.heap = t.heap ∧ T'.vm = t.vm ∧ XC E st₀ t ∧ t.heap[q]? = some ce ∧ ce.vm = .none ∧ s.vm.findClass E = some ce.cls ∧
      Steps p.tables e below (T.setTop g) ((T'.setTop { g with stack := rest }).pushFrame (.throwing q)))
def vx_X {S : Type} (px : S → Prop) (B : String → S → State → Prop) (A : Nat → Prop) : String → State → State → Prop := fun E st t => ∃ u : S, px u ∧ B E u t ∧ va_F A st t
section Runs
variable {p : Program} {l : Launch} {e : Env} {R : Room} {s : State} {m : MethodId} {args : Array Value} {below : List Frame} {meth : Method} {c : Code} {H : Heap} {locs : List Loc} {cells slots : Nat}
variable {y : MethodName} {bytes cc : ByteArray} {maxL nL mc ms n index : Nat} {ret : Option FieldType} {ws : List Cond} {rm : Room} {Pc : Array Value → State → Prop} {Qc : Array Value → State → Outcome → State → Prop} {XC : String → State → State → Prop} {free : Addr → Prop} {Ts : List Cond} {own C : String} {b : Addr} {As rest : List Value} {g : JFrame}
theorem vx_callBack (cb : CallB R s args own index y bytes maxL ret ws rm mc ms n) (hM : vx_Met l y ws rm Pc Qc XC mc ms free) (hbl : FrameBlind Pc) : vx_Back l R p e below s args y 3 8 (PreOf R mc ms Pc) (PostOf Qc mc ms free) (vx_Post XC mc ms free) := by
  obtain ⟨hrc, hrs, hfr, hlo, hws, hcw, -, hini, -⟩ := cb
  exact vx_back (bytes := bytes) (maxL := maxL) (ret := ret) hM hbl hrc hrs hfr hlo hws hcw (fun a' U hW => word_at hW (Or.inl (by first | rfl | simp [Cond.onTables, Cond.keeps, Cond.steady])) hini)
theorem vx_runV (S : CallFix p m c cc nL s args Ts own) (hM : vx_Met l y ws rm Pc Qc XC mc ms free) (cw : CallW R s args own C index y bytes maxL ret ws rm mc ms n) (hp : PreV s H C b Pc As)
    (hg : g.method = m) (hn : As.length = n) (hsize : g.locals.size = nL) (hstack : g.stack = As.reverse ++ .ref b :: rest) (hW : 2 * g.monitorRoom + (rest.map fun v => v.category).sum ≤ 8) (hdg : decode cc g.pc = .ok (.invokevirtual index, 3)) (hf : cells + mc ≤ R.cells ∧ slots + ms ≤ R.slots) :
    vx_Run p l e R s m args below meth c H locs cells slots mc ms g rest (Qc (Value.ref b :: As).toArray) XC free := by
  have hK : vx_Back l R p e below s args y 3 8 (PreOf R mc ms Pc) (PostOf Qc mc ms free) (vx_Post XC mc ms free) := vx_callBack cw.1 hM hp.1
  obtain ⟨⟨-, -, -, -, -, -, hcode, -, hy, hlen, hl⟩, hin, hse⟩ := cw
  obtain ⟨hx, hb, hml, ho, -⟩ := S
  obtain ⟨-, ⟨cellB, hcB, hoB, hclB⟩, hPc⟩ := hp
  intro T hT X
  rcases vx_callV X hx (C := C) (bytes := bytes) (maxL := maxL) (ret := ret) ho hl hin hse hcode hy hK (by rw [hT]; exact hcB) hoB hclB hg (hsize.trans hml.symm) (argsL := As) (rest := rest) (fun sig h => hn.trans (hlen sig h)) hstack hW (by rw [hb]; exact hdg)
    (fun vm₁ hW₁ => ⟨hf.1, hf.2, hPc (T.setVm vm₁) hT hW₁⟩) with ⟨v, vm₁, ⟨U', l2, c2, s2⟩, hW₁, X', ⟨g', mk, t, L, e1, e2, hq, h1, hL, h2, h3⟩, st⟩ | ⟨q, vm₁, ⟨U', l2, c2, s2⟩, hW₁, X', ⟨g', mk, t, L, E, ce, e1, e2, hq, hce, hcv, hcl, h1, hL, h2, h3⟩, st⟩
  · dsimp only [Pt.U, Pt.locs, Pt.cells, Pt.slots] at X' e1 e2 h1 h2 h3 st
    subst h1; subst h2; subst h3
    exact Or.inl ⟨v, (T.setVm vm₁).calling g' mk (Value.ref b :: As).toArray, t, U', L, hT, X', hL, e1, e2, hq, st⟩
  · dsimp only [Pt.U, Pt.locs, Pt.cells, Pt.slots] at X' e1 e2 h1 h2 h3 st hcl
    subst h1; subst h2; subst h3
    exact Or.inr ⟨q, (T.setVm vm₁).calling g' mk (Value.ref b :: As).toArray, t, U', L, E, ce, hT, X', hL, e1, e2, hq, hce, hcv, vx_cls hW₁ hcl, st⟩
theorem vx_runS (S : CallFix p m c cc nL s args Ts own) (hM : vx_Met l y ws rm Pc Qc XC mc ms free) (cw : CallB R s args own index y bytes maxL ret ws rm mc ms n ∧ (Cond.static y).before args s = true) (hp : PreS s H Pc As)
    (hg : g.method = m) (hn : As.length = n) (hsize : g.locals.size = nL) (hstack : g.stack = As.reverse ++ rest) (hW : 2 * g.monitorRoom + (rest.map fun v => v.category).sum ≤ 8) (hdg : decode cc g.pc = .ok (.invokestatic index, 3)) (hf : cells + mc ≤ R.cells ∧ slots + ms ≤ R.slots) :
    vx_Run p l e R s m args below meth c H locs cells slots mc ms g rest (Qc As.toArray) XC free := by
  have hK : vx_Back l R p e below s args y 3 8 (PreOf R mc ms Pc) (PostOf Qc mc ms free) (vx_Post XC mc ms free) := vx_callBack cw.1 hM hp.1
  obtain ⟨⟨-, -, -, -, -, -, hcode, hini, hy, hlen, hl⟩, hstt⟩ := cw
  obtain ⟨hx, hb, hml, ho, -⟩ := S
  intro T hT X
  rcases vx_callS X hx (bytes := bytes) (maxL := maxL) (ret := ret) ho hl hstt hini hcode hy hK hg (hsize.trans hml.symm) (argsL := As) (rest := rest) (fun sig h => hn.trans (hlen sig h)) hstack hW (by rw [hb]; exact hdg)
    (fun vm₁ hW₁ => ⟨hf.1, hf.2, hp.2 (T.setVm vm₁) hT hW₁⟩) with ⟨v, vm₁, ⟨U', l2, c2, s2⟩, hW₁, X', ⟨g', mk, t, L, e1, e2, hq, h1, hL, h2, h3⟩, st⟩ | ⟨q, vm₁, ⟨U', l2, c2, s2⟩, hW₁, X', ⟨g', mk, t, L, E, ce, e1, e2, hq, hce, hcv, hcl, h1, hL, h2, h3⟩, st⟩
  · dsimp only [Pt.U, Pt.locs, Pt.cells, Pt.slots] at X' e1 e2 h1 h2 h3 st
    subst h1; subst h2; subst h3
    exact Or.inl ⟨v, (T.setVm vm₁).calling g' mk As.toArray, t, U', L, hT, X', hL, e1, e2, hq, st⟩
  · dsimp only [Pt.U, Pt.locs, Pt.cells, Pt.slots] at X' e1 e2 h1 h2 h3 st hcl
    subst h1; subst h2; subst h3
    exact Or.inr ⟨q, (T.setVm vm₁).calling g' mk As.toArray, t, U', L, E, ce, hT, X', hL, e1, e2, hq, hce, hcv, vx_cls hW₁ hcl, st⟩
end Runs
section Rows
variable {p : Program} {l : Launch} {e : Env} {R : Room} {s : State} {m : MethodId} {args : Array Value} {below : List Frame} {meth : Method} {c : Code} {H : Heap} {locs : List Loc} {cells slots : Nat} {Q : State → Prop}
variable {mc ms : Nat} {free : Addr → Prop} {A0 A1 : Nat → Prop} {H0 : Heap} {a : Array Value} {pc : Nat} {ls : Array Slot} {st0 rest : List Value}
theorem vx_keep {st₀ t T' : State} {L : List Loc} (h0 : st₀.heap = H) (e1 : T'.heap = t.heap) (hS : va_S A0 H0 H locs) (hA : ∀ q, q < H.size → A1 q → A0 q) (hf : ∀ q, free q → A0 q) (hL : ∀ q ∈ L, free q.base) (hF : va_F A1 st₀ t) :
    H.size ≤ T'.heap.size ∧ (∀ q : Nat, q < H.size → ¬ A1 q → T'.heap[q]? = H[q]?) ∧ va_S A0 H0 T'.heap (locs ++ L) := by
  obtain ⟨hz, hk⟩ := hF
  rw [h0] at hz hk
  exact ⟨by rw [e1]; exact hz, fun q h1 h2 => by rw [e1]; exact hk q h1 h2,
    ⟨Nat.le_trans hS.1 (by rw [e1]; exact hz), fun q h1 h2 => by rw [e1, hk q (Nat.lt_of_lt_of_le h1 hS.1) (fun z => h2 (hA q (Nat.lt_of_lt_of_le h1 hS.1) z))]; exact hS.2.1 q h1 h2, fun q hq => by
      rcases List.mem_append.mp hq with h | h
      · exact hS.2.2 q h
      · exact hf _ (hL q h)⟩⟩
theorem vx_calli {S SX : Type} {post : Int32 → S → Prop} {px : SX → Prop} {B : S → State → Prop} {BX : String → SX → State → Prop} {AX : Nat → Prop} (hr : vx_Run p l e R s m args below meth c H locs cells slots mc ms (F0 m pc ls st0) rest (va_Qi post B A1 a) (vx_X px BX AX) free) (hS : va_S A0 H0 H locs) (hA : ∀ q, q < H.size → A1 q → A0 q) (hf : ∀ q, free q → A0 q) (hAX : ∀ q, q < H.size → AX q → A0 q)
    (kx : ∀ (E : String) (ce : Cell) (q9 : Addr) (u : SX) (t : State) (H1 : Heap) (locs1 : List Loc), t.heap = H1 → s.vm.Alike t.vm → px u → BX E u t → H.size ≤ H1.size → (∀ q : Nat, q < H.size → ¬ AX q → H1[q]? = H[q]?) → va_S A0 H0 H1 locs1 → H1[q9]? = some ce → ce.vm = .none → s.vm.findClass E = some ce.cls → vx_W p l e R s m args below meth c H1 locs1 (cells + mc) (slots + ms) Q (F0 m pc ls rest) q9)
    (kk : ∀ (r : Int32) (u : S) (t : State) (H1 : Heap) (locs1 : List Loc), t.heap = H1 → s.vm.Alike t.vm → post r u → B u t → H.size ≤ H1.size → (∀ q : Nat, q < H.size → ¬ A1 q → H1[q]? = H[q]?) → va_S A0 H0 H1 locs1 → W p l e R s m args below meth c H1 locs1 (cells + mc) (slots + ms) Q (F0 m (pc + 3) ls (.int r :: rest))) : W p l e R s m args below meth c H locs cells slots Q (F0 m pc ls st0) := by
  intro T hT X
  rcases hr T hT X with ⟨v, st₀, t, T', L, h0, X', hL, e1, e2, ⟨⟨r, u, hv, hp, hb⟩, hF⟩, st⟩ | ⟨q, st₀, t, T', L, E, ce, h0, X', hL, e1, e2, ⟨u, hp, hb, hF⟩, hce, hcv, hcl, st⟩
  · cases hv
    obtain ⟨k1, k2, k3⟩ := vx_keep h0 e1 hS hA hf hL hF
    obtain ⟨t2, a1, b1⟩ := kk r u t T'.heap (locs ++ L) e1.symm (by rw [← e2]; exact X'.warmed.alike) hp hb k1 k2 k3 T' rfl X'
    exact ⟨t2, st t2 a1, b1⟩
  · obtain ⟨k1, k2, k3⟩ := vx_keep h0 e1 hS hAX hf hL hF
    obtain ⟨t2, a1, b1⟩ := kx E ce q u t T'.heap (locs ++ L) e1.symm (by rw [← e2]; exact X'.warmed.alike) hp hb k1 k2 k3 (by rw [e1]; exact hce) hcv hcl T' rfl X'
    exact ⟨t2, st.trans a1, b1⟩
theorem vx_calll {S SX : Type} {post : Int64 → S → Prop} {px : SX → Prop} {B : S → State → Prop} {BX : String → SX → State → Prop} {AX : Nat → Prop} (hr : vx_Run p l e R s m args below meth c H locs cells slots mc ms (F0 m pc ls st0) rest (va_Ql post B A1 a) (vx_X px BX AX) free) (hS : va_S A0 H0 H locs) (hA : ∀ q, q < H.size → A1 q → A0 q) (hf : ∀ q, free q → A0 q) (hAX : ∀ q, q < H.size → AX q → A0 q)
    (kx : ∀ (E : String) (ce : Cell) (q9 : Addr) (u : SX) (t : State) (H1 : Heap) (locs1 : List Loc), t.heap = H1 → s.vm.Alike t.vm → px u → BX E u t → H.size ≤ H1.size → (∀ q : Nat, q < H.size → ¬ AX q → H1[q]? = H[q]?) → va_S A0 H0 H1 locs1 → H1[q9]? = some ce → ce.vm = .none → s.vm.findClass E = some ce.cls → vx_W p l e R s m args below meth c H1 locs1 (cells + mc) (slots + ms) Q (F0 m pc ls rest) q9)
    (kk : ∀ (r : Int64) (u : S) (t : State) (H1 : Heap) (locs1 : List Loc), t.heap = H1 → s.vm.Alike t.vm → post r u → B u t → H.size ≤ H1.size → (∀ q : Nat, q < H.size → ¬ A1 q → H1[q]? = H[q]?) → va_S A0 H0 H1 locs1 → W p l e R s m args below meth c H1 locs1 (cells + mc) (slots + ms) Q (F0 m (pc + 3) ls (.long r :: rest))) : W p l e R s m args below meth c H locs cells slots Q (F0 m pc ls st0) := by
  intro T hT X
  rcases hr T hT X with ⟨v, st₀, t, T', L, h0, X', hL, e1, e2, ⟨⟨r, u, hv, hp, hb⟩, hF⟩, st⟩ | ⟨q, st₀, t, T', L, E, ce, h0, X', hL, e1, e2, ⟨u, hp, hb, hF⟩, hce, hcv, hcl, st⟩
  · cases hv
    obtain ⟨k1, k2, k3⟩ := vx_keep h0 e1 hS hA hf hL hF
    obtain ⟨t2, a1, b1⟩ := kk r u t T'.heap (locs ++ L) e1.symm (by rw [← e2]; exact X'.warmed.alike) hp hb k1 k2 k3 T' rfl X'
    exact ⟨t2, st t2 a1, b1⟩
  · obtain ⟨k1, k2, k3⟩ := vx_keep h0 e1 hS hAX hf hL hF
    obtain ⟨t2, a1, b1⟩ := kx E ce q u t T'.heap (locs ++ L) e1.symm (by rw [← e2]; exact X'.warmed.alike) hp hb k1 k2 k3 (by rw [e1]; exact hce) hcv hcl T' rfl X'
    exact ⟨t2, st.trans a1, b1⟩
theorem vx_callf {S SX : Type} {post : UInt32 → S → Prop} {px : SX → Prop} {B : S → State → Prop} {BX : String → SX → State → Prop} {AX : Nat → Prop} (hr : vx_Run p l e R s m args below meth c H locs cells slots mc ms (F0 m pc ls st0) rest (va_Qf post B A1 a) (vx_X px BX AX) free) (hS : va_S A0 H0 H locs) (hA : ∀ q, q < H.size → A1 q → A0 q) (hf : ∀ q, free q → A0 q) (hAX : ∀ q, q < H.size → AX q → A0 q)
    (kx : ∀ (E : String) (ce : Cell) (q9 : Addr) (u : SX) (t : State) (H1 : Heap) (locs1 : List Loc), t.heap = H1 → s.vm.Alike t.vm → px u → BX E u t → H.size ≤ H1.size → (∀ q : Nat, q < H.size → ¬ AX q → H1[q]? = H[q]?) → va_S A0 H0 H1 locs1 → H1[q9]? = some ce → ce.vm = .none → s.vm.findClass E = some ce.cls → vx_W p l e R s m args below meth c H1 locs1 (cells + mc) (slots + ms) Q (F0 m pc ls rest) q9)
    (kk : ∀ (r : UInt32) (u : S) (t : State) (H1 : Heap) (locs1 : List Loc), t.heap = H1 → s.vm.Alike t.vm → post r u → B u t → H.size ≤ H1.size → (∀ q : Nat, q < H.size → ¬ A1 q → H1[q]? = H[q]?) → va_S A0 H0 H1 locs1 → W p l e R s m args below meth c H1 locs1 (cells + mc) (slots + ms) Q (F0 m (pc + 3) ls (.float r :: rest))) : W p l e R s m args below meth c H locs cells slots Q (F0 m pc ls st0) := by
  intro T hT X
  rcases hr T hT X with ⟨v, st₀, t, T', L, h0, X', hL, e1, e2, ⟨⟨r, u, hv, hp, hb⟩, hF⟩, st⟩ | ⟨q, st₀, t, T', L, E, ce, h0, X', hL, e1, e2, ⟨u, hp, hb, hF⟩, hce, hcv, hcl, st⟩
  · cases hv
    obtain ⟨k1, k2, k3⟩ := vx_keep h0 e1 hS hA hf hL hF
    obtain ⟨t2, a1, b1⟩ := kk r u t T'.heap (locs ++ L) e1.symm (by rw [← e2]; exact X'.warmed.alike) hp hb k1 k2 k3 T' rfl X'
    exact ⟨t2, st t2 a1, b1⟩
  · obtain ⟨k1, k2, k3⟩ := vx_keep h0 e1 hS hAX hf hL hF
    obtain ⟨t2, a1, b1⟩ := kx E ce q u t T'.heap (locs ++ L) e1.symm (by rw [← e2]; exact X'.warmed.alike) hp hb k1 k2 k3 (by rw [e1]; exact hce) hcv hcl T' rfl X'
    exact ⟨t2, st.trans a1, b1⟩
theorem vx_calld {S SX : Type} {post : UInt64 → S → Prop} {px : SX → Prop} {B : S → State → Prop} {BX : String → SX → State → Prop} {AX : Nat → Prop} (hr : vx_Run p l e R s m args below meth c H locs cells slots mc ms (F0 m pc ls st0) rest (va_Qd post B A1 a) (vx_X px BX AX) free) (hS : va_S A0 H0 H locs) (hA : ∀ q, q < H.size → A1 q → A0 q) (hf : ∀ q, free q → A0 q) (hAX : ∀ q, q < H.size → AX q → A0 q)
    (kx : ∀ (E : String) (ce : Cell) (q9 : Addr) (u : SX) (t : State) (H1 : Heap) (locs1 : List Loc), t.heap = H1 → s.vm.Alike t.vm → px u → BX E u t → H.size ≤ H1.size → (∀ q : Nat, q < H.size → ¬ AX q → H1[q]? = H[q]?) → va_S A0 H0 H1 locs1 → H1[q9]? = some ce → ce.vm = .none → s.vm.findClass E = some ce.cls → vx_W p l e R s m args below meth c H1 locs1 (cells + mc) (slots + ms) Q (F0 m pc ls rest) q9)
    (kk : ∀ (r : UInt64) (u : S) (t : State) (H1 : Heap) (locs1 : List Loc), t.heap = H1 → s.vm.Alike t.vm → post r u → B u t → H.size ≤ H1.size → (∀ q : Nat, q < H.size → ¬ A1 q → H1[q]? = H[q]?) → va_S A0 H0 H1 locs1 → W p l e R s m args below meth c H1 locs1 (cells + mc) (slots + ms) Q (F0 m (pc + 3) ls (.double r :: rest))) : W p l e R s m args below meth c H locs cells slots Q (F0 m pc ls st0) := by
  intro T hT X
  rcases hr T hT X with ⟨v, st₀, t, T', L, h0, X', hL, e1, e2, ⟨⟨r, u, hv, hp, hb⟩, hF⟩, st⟩ | ⟨q, st₀, t, T', L, E, ce, h0, X', hL, e1, e2, ⟨u, hp, hb, hF⟩, hce, hcv, hcl, st⟩
  · cases hv
    obtain ⟨k1, k2, k3⟩ := vx_keep h0 e1 hS hA hf hL hF
    obtain ⟨t2, a1, b1⟩ := kk r u t T'.heap (locs ++ L) e1.symm (by rw [← e2]; exact X'.warmed.alike) hp hb k1 k2 k3 T' rfl X'
    exact ⟨t2, st t2 a1, b1⟩
  · obtain ⟨k1, k2, k3⟩ := vx_keep h0 e1 hS hAX hf hL hF
    obtain ⟨t2, a1, b1⟩ := kx E ce q u t T'.heap (locs ++ L) e1.symm (by rw [← e2]; exact X'.warmed.alike) hp hb k1 k2 k3 (by rw [e1]; exact hce) hcv hcl T' rfl X'
    exact ⟨t2, st.trans a1, b1⟩
theorem vx_callv {S SX : Type} {post : S → Prop} {px : SX → Prop} {B : S → State → Prop} {BX : String → SX → State → Prop} {AX : Nat → Prop} (hr : vx_Run p l e R s m args below meth c H locs cells slots mc ms (F0 m pc ls st0) rest (va_Qv post B A1 a) (vx_X px BX AX) free) (hS : va_S A0 H0 H locs) (hA : ∀ q, q < H.size → A1 q → A0 q) (hf : ∀ q, free q → A0 q) (hAX : ∀ q, q < H.size → AX q → A0 q)
    (kx : ∀ (E : String) (ce : Cell) (q9 : Addr) (u : SX) (t : State) (H1 : Heap) (locs1 : List Loc), t.heap = H1 → s.vm.Alike t.vm → px u → BX E u t → H.size ≤ H1.size → (∀ q : Nat, q < H.size → ¬ AX q → H1[q]? = H[q]?) → va_S A0 H0 H1 locs1 → H1[q9]? = some ce → ce.vm = .none → s.vm.findClass E = some ce.cls → vx_W p l e R s m args below meth c H1 locs1 (cells + mc) (slots + ms) Q (F0 m pc ls rest) q9)
    (kk : ∀ (u : S) (t : State) (H1 : Heap) (locs1 : List Loc), t.heap = H1 → s.vm.Alike t.vm → post u → B u t → H.size ≤ H1.size → (∀ q : Nat, q < H.size → ¬ A1 q → H1[q]? = H[q]?) → va_S A0 H0 H1 locs1 → W p l e R s m args below meth c H1 locs1 (cells + mc) (slots + ms) Q (F0 m (pc + 3) ls (rest))) : W p l e R s m args below meth c H locs cells slots Q (F0 m pc ls st0) := by
  intro T hT X
  rcases hr T hT X with ⟨v, st₀, t, T', L, h0, X', hL, e1, e2, ⟨⟨u, hv, hp, hb⟩, hF⟩, st⟩ | ⟨q, st₀, t, T', L, E, ce, h0, X', hL, e1, e2, ⟨u, hp, hb, hF⟩, hce, hcv, hcl, st⟩
  · cases hv
    obtain ⟨k1, k2, k3⟩ := vx_keep h0 e1 hS hA hf hL hF
    obtain ⟨t2, a1, b1⟩ := kk u t T'.heap (locs ++ L) e1.symm (by rw [← e2]; exact X'.warmed.alike) hp hb k1 k2 k3 T' rfl X'
    exact ⟨t2, st t2 a1, b1⟩
  · obtain ⟨k1, k2, k3⟩ := vx_keep h0 e1 hS hAX hf hL hF
    obtain ⟨t2, a1, b1⟩ := kx E ce q u t T'.heap (locs ++ L) e1.symm (by rw [← e2]; exact X'.warmed.alike) hp hb k1 k2 k3 (by rw [e1]; exact hce) hcv hcl T' rfl X'
    exact ⟨t2, st.trans a1, b1⟩
/-- caught by the row x of this method's table; the rows ahead don't take it -/
theorem vx_catch {own name : String} {E : String} {ce : Cell} {q : Addr} (hown : s.vm.findClass own = some m.cls) (pre : List ExceptionTableEntry) (x : ExceptionTableEntry) (suf : List ExceptionTableEntry) (hsplit : c.exceptionTable.toList = pre ++ x :: suf)
    (hpass : ∀ z ∈ pre, covers z pc = false ∨ (z.catchType ≠ 0 ∧ ∃ nm : String, (Cond.classLink own z.catchType nm).before args s = true ∧ va_Nc E nm s)) (hx : covers x pc = true) (h0 : x.catchType ≠ 0)
    (hlink : (Cond.classLink own x.catchType name).before args s = true) (hcast : (Cond.castable E name).before args s = true) (hcell : H[q]? = some ce) (hv : ce.vm = .none) (hcl : s.vm.findClass E = some ce.cls)
    (kk : W p l e R s m args below meth c H locs cells slots Q (F0 m x.handlerPc ls [.ref q])) : vx_W p l e R s m args below meth c H locs cells slots Q (F0 m pc ls rest) q := by
  intro T hT X
  have hpl : e.platform.magicAccessors = ({} : Platform).magicAccessors := by rw [X.admits.platform]
  obtain ⟨c3, c4, hc3, hc4, hasg⟩ := Cond.castable_spec hcast
  cases Option.some.inj (hc3.symm.trans hcl)
  obtain ⟨c5, hc5, hcl5⟩ := Cond.classLink_spec hown hlink e.platform hpl
  cases Option.some.inj (hc4.symm.trans hc5)
  obtain ⟨vm', X', st⟩ := X.thenCaughtThrough q (g := F0 m pc ls rest) rfl (Steps.refl _) (by rw [hT]; exact hcell) (by rw [hv]; rfl) (by obtain ⟨k9, h9, -⟩ := Vm.findClass_spec hcl; exact ⟨k9, h9⟩) pre x suf hsplit
    (fun z hz => by
      rcases hpass z hz with h | ⟨hz0, nm, hl1, hn1⟩
      · exact Or.inl h
      · obtain ⟨c6, hc6, hcl6⟩ := Cond.classLink_spec hown hl1 e.platform hpl
        obtain ⟨a8, b8, h1, h2, h3⟩ := hn1
        cases Option.some.inj (h1.symm.trans hcl)
        cases Option.some.inj (h2.symm.trans hc6)
        exact Or.inr ⟨hz0, _, hcl6, h3⟩) hx (Or.inr ⟨h0, c4, hcl5, hasg⟩)
  obtain ⟨t, a1, b1⟩ := kk (T.setVm vm') hT X'
  exact ⟨t, st.trans a1, b1⟩
end Rows
section Ends
variable {p : Program} {l : Launch} {e : Env} {R : Room} {s : State} {m : MethodId} {args : Array Value} {below : List Frame} {meth : Method} {c : Code} {H : Heap} {locs : List Loc} {cells slots : Nat} {Q : State → Prop}
variable {mc ms : Nat} {free : Addr → Prop} {A0 A1 : Nat → Prop} {H0 : Heap} {a : Array Value} {ls : Array Slot} {st0 rest : List Value}
variable {Qc : Array Value → State → Outcome → State → Prop} {XC : String → State → State → Prop}
/-- what a body that may throw owes at its end -/
def vx_MQ (below : List Frame) (Qc : Array Value → State → Outcome → State → Prop) (XC : String → State → State → Prop) (a : Array Value) (s : State) (mc ms : Nat) (free : Addr → Prop) : State → Prop := fun t =>
  ∃ o, t.status = .running ∧ Ended t below o ∧ vx_Q Qc XC mc ms free a s o t
theorem vx_ret {g : JFrame} {mc ms : Nat} (k : W p l e R s m args below meth c H locs cells slots (MQ below Qc args s mc ms free) g) : W p l e R s m args below meth c H locs cells slots (vx_MQ below Qc XC args s mc ms free) g := by
  intro T hT X
  obtain ⟨t, a1, o, b1, b2, b3, b4⟩ := k T hT X
  exact ⟨t, a1, o, b1, b2, Or.inl ⟨b3, b4⟩⟩
/-- not caught here: it goes on to the caller -/
theorem vx_widen {g : JFrame} {q : Addr} {k n : Nat} (h1 : cells ≤ k) (h2 : slots ≤ n) (kk : vx_W p l e R s m args below meth c H locs k n Q g q) : vx_W p l e R s m args below meth c H locs cells slots Q g q := fun T hT X => kk T hT (stand_widen X h1 h2)
theorem vx_out {pc : Nat} {E : String} {ce : Cell} {q : Addr} {mc ms : Nat} (hout : ∀ x ∈ c.exceptionTable.toList, covers x pc = false) (hlocks : meth.locks = false) (hcell : H[q]? = some ce) (hv : ce.vm = .none) (hcl : s.vm.findClass E = some ce.cls)
    (hx : ∀ t : State, t.heap = H → s.vm.Alike t.vm → XC E s t) (hf : ∀ z ∈ locs, free z.base) (hc : cells ≤ mc) (hs : slots ≤ ms) :
    vx_W p l e R s m args below meth c H locs cells slots (vx_MQ below Qc XC args s mc ms free) (F0 m pc ls rest) q := by
  intro T hT X
  obtain ⟨st1, hrun, hend, hW, hsm⟩ := X.leaveThrown q (g := F0 m pc ls rest) rfl rfl rfl hout hlocks
  have hcell9 : (T.setFrames (.throwing q :: below)).heap[q]? = some ce := by
    show T.heap[q]? = some ce
    rw [hT]; exact hcell
  exact ⟨_, st1, .threw q, hrun, hend, Or.inr ⟨q, rfl, E, ce, locs, hx _ hT hW.alike, hcell9, hv, hcl, hW, hsm.mono hc hs, hf⟩⟩
theorem vx_frame {U : State} {k n : Nat} (h : s.sameButNew ({ U with vm := s.vm } : State) locs k n) : s.heap.size ≤ U.heap.size ∧ ∀ q : Nat, q < s.heap.size → (∀ z ∈ locs, z.base ≠ q) → U.heap[q]? = s.heap[q]? := by
  obtain ⟨-, h2, -, -, -, h6⟩ := h
  refine ⟨h2, fun q hq hz => ?_⟩
  obtain ⟨c9, e1, e2, e3, e4⟩ := h6 q _ (Array.getElem?_eq_getElem hq)
  have hs : c9.slots = (s.heap[q]).slots := Array.ext_getElem? fun i => e4 i fun hm => hz _ hm rfl
  have h9 : c9 = s.heap[q] := by
    rw [hs] at e2
    exact e2
  have e5 : U.heap[q]? = some c9 := e1
  rw [e5, h9, Array.getElem?_eq_getElem hq]
/-- the words of a throw but the four that speak of the heap -/
def vx_no (w : Cond) : Bool := decide (w ≠ .isRef (.static Bundle.tN "UNASSIGNED_STACK" Bundle.steD)) && decide (w ≠ .isRef (.static Bundle.tN "SUPPRESSED_SENTINEL" Bundle.listD)) && decide (w ≠ .laysStatic Bundle.tN "UNASSIGNED_STACK" Bundle.steD) && decide (w ≠ .laysStatic Bundle.tN "SUPPRESSED_SENTINEL" Bundle.listD)
def vx_at0 (own : String) (ic : Nat) (X : String) (names : List String) : List Cond := (Bundle.ownAtoms0 own ic X names).filter vx_no
def vx_atS (own : String) (ic : Nat) (X : String) (names : List String) : List Cond := (Bundle.ownAtoms own ic X names).filter vx_no
/-- a word that the tables alone decide, or a good one -/
def vx_ot (w : Cond) : Bool := w.onTables || goodWord w
theorem vx_ot_at {args a' : Array Value} {s U : State} {w : Cond} (hW : s.WarmedH U.vm) (hvm : s.vm = U.vm) (hg : vx_ot w = true) (h : w.before args s = true) : w.before a' U = true := by
  simp only [vx_ot, Bool.or_eq_true] at hg
  rcases hg with hg | hg
  · exact va_tabs hg hvm h
  · exact word_at hW (good_of_word hg) h
/-- a list's words: the good ones out of the method's own list, the others by premises of their own -/
theorem vx_hat {args : Array Value} {s : State} {L B : List Cond} (h1 : ∀ w ∈ L.filter goodWord, w.before args s = true) (h2 : ∀ w ∈ L.filter (fun w => !goodWord w), w ∈ B) (h3 : ∀ w ∈ B, w.before args s = true) : ∀ w ∈ L, w.before args s = true := by
  intro w hw
  by_cases g : goodWord w = true
  · exact h1 w (List.mem_filter.mpr ⟨hw, g⟩)
  · refine h3 w (h2 w (List.mem_filter.mpr ⟨hw, ?_⟩))
    show (!goodWord w) = true
    cases hgw : goodWord w
    · rfl
    · exact absurd hgw g
theorem vx_c {args : Array Value} {s : State} {w : Cond} {B : List Cond} (h : w.before args s = true) (t : ∀ w ∈ B, w.before args s = true) : ∀ w' ∈ w :: B, w'.before args s = true := fun w' h' => (List.mem_cons.mp h').elim (fun e => by rw [e]; exact h) (t w')
theorem vx_n {args : Array Value} {s : State} : ∀ w ∈ ([] : List Cond), w.before args s = true := fun _ h => nomatch h
theorem vx_own {args : Array Value} {s : State} {L : List Cond} (h1 : ∀ w ∈ L.filter vx_no, w.before args s = true)
    (hU : (Cond.isRef (.static Bundle.tN "UNASSIGNED_STACK" Bundle.steD)).before args s = true) (hN : (Cond.isRef (.static Bundle.tN "SUPPRESSED_SENTINEL" Bundle.listD)).before args s = true)
    (lU : (Cond.laysStatic Bundle.tN "UNASSIGNED_STACK" Bundle.steD).before args s = true) (lN : (Cond.laysStatic Bundle.tN "SUPPRESSED_SENTINEL" Bundle.listD).before args s = true) : ∀ w ∈ L, w.before args s = true := by
  intro w hw
  by_cases e1 : w = .isRef (.static Bundle.tN "UNASSIGNED_STACK" Bundle.steD)
  · rw [e1]; exact hU
  · by_cases e2 : w = .isRef (.static Bundle.tN "SUPPRESSED_SENTINEL" Bundle.listD)
    · rw [e2]; exact hN
    · by_cases e3 : w = .laysStatic Bundle.tN "UNASSIGNED_STACK" Bundle.steD
      · rw [e3]; exact lU
      · by_cases e4 : w = .laysStatic Bundle.tN "SUPPRESSED_SENTINEL" Bundle.listD
        · rw [e4]; exact lN
        · exact h1 w (List.mem_filter.mpr ⟨hw, by unfold vx_no; rw [decide_eq_true e1, decide_eq_true e2, decide_eq_true e3, decide_eq_true e4]; rfl⟩)
/-- where a static field lies, its class's statics cell in H -/
def vx_L (C n d : String) (A : Nat → Prop) (U : State) (H : Heap) : Prop := ∃ (c : ClassId) (k : Class) (i : Nat) (f : Field) (a : Nat) (cell : Cell), U.vm.findClass C = some c ∧ U.fieldFound? C n d = some (c, k, i, f) ∧ f.isStatic = true ∧ k.statics = some a ∧ H[a]? = some cell ∧ cell.vm.isStatics = true ∧ cell.cls = c ∧ f.slot < cell.slots.size ∧ k.staticTypes[f.slot]? = some f.type ∧ ¬ A a
theorem vx_L.moved {C n d : String} {A : Nat → Prop} {u U : State} {H : Heap} (hvm : u.vm.Alike U.vm) (h : vx_L C n d A u H) : vx_L C n d A U H := by
  obtain ⟨c, k, i, f, a, cell, h1, h2, h3, h4, h5, h6, h7, h8, h9, h10⟩ := h
  obtain ⟨k', hi', he⟩ := State.fieldFound?_setVm hvm h2
  exact ⟨c, k', i, f, a, cell, by rw [hvm.findClass]; exact h1, hi', h3, by rw [he]; exact h4, h5, h6, h7, h8, by rw [he]; exact h9, h10⟩
theorem vx_L.kept {C n d : String} {A : Nat → Prop} {U : State} {H H1 : Heap} (h : vx_L C n d A U H) (hq : ∀ a : Nat, a < H.size → ¬ A a → H1[a]? = H[a]?) : vx_L C n d A U H1 := by
  obtain ⟨c, k, i, f, a, cell, h1, h2, h3, h4, h5, h6, h7, h8, h9, h10⟩ := h
  exact ⟨c, k, i, f, a, cell, h1, h2, h3, h4, by rw [hq a (Array.getElem?_eq_some_iff.mp h5).1 h10]; exact h5, h6, h7, h8, h9, h10⟩
theorem vx_L.narrow {C n d : String} {A B : Nat → Prop} {U : State} {H : Heap} (h : vx_L C n d A U H) (hAB : ∀ q, B q → A q) : vx_L C n d B U H := by
  obtain ⟨c, k, i, f, a, cell, h1, h2, h3, h4, h5, h6, h7, h8, h9, h10⟩ := h
  exact ⟨c, k, i, f, a, cell, h1, h2, h3, h4, h5, h6, h7, h8, h9, fun z => h10 (hAB _ z)⟩
theorem vx_L.word {C n d : String} {A : Nat → Prop} {s : State} {args : Array Value} (h : vx_L C n d A s s.heap) : (Cond.laysStatic C n d).before args s = true := by
  obtain ⟨c, k, i, f, a, cell, h1, h2, h3, h4, h5, h6, h7, h8, h9, -⟩ := h
  show (Cond.laysStatic C n d).holds args s none s [] = true
  exact Cond.laysStatic_of h1 h2 h3 h4 h5 h6 h7 h8 h9
/-- .. and what it holds: null or some reference -/
def vx_Zq (C n d : String) (A : Nat → Prop) (U : State) (H : Heap) : Prop := va_Zq C n d A U H ∧ vx_L C n d A U H
theorem vx_Zq.moved {C n d : String} {A : Nat → Prop} {u U : State} {H : Heap} (hvm : u.vm.Alike U.vm) (h : vx_Zq C n d A u H) : vx_Zq C n d A U H := ⟨va_Zq.moved hvm h.1, vx_L.moved hvm h.2⟩
theorem vx_Zq.kept {C n d : String} {A : Nat → Prop} {U : State} {H H1 : Heap} (h : vx_Zq C n d A U H) (hq : ∀ a : Nat, a < H.size → ¬ A a → H1[a]? = H[a]?) : vx_Zq C n d A U H1 := ⟨va_Zq.kept h.1 hq, vx_L.kept h.2 hq⟩
theorem vx_Zq.narrow {C n d : String} {A B : Nat → Prop} {U : State} {H : Heap} (h : vx_Zq C n d A U H) (hAB : ∀ q, B q → A q) : vx_Zq C n d B U H := ⟨va_Zq.narrow h.1 hAB, vx_L.narrow h.2 hAB⟩
theorem vx_Zqof {args : Array Value} {s : State} {C n d : String} {A : Nat → Prop} (hl : (Cond.laysStatic C n d).before args s = true) (hini : (Cond.initialized C).before args s = true) (h : (Cond.isRef (.static C n d)).before args s = true) (hA : ∀ a : Nat, a < s.heap.size → ¬ A a) : vx_Zq C n d A s s.heap := by
  refine ⟨va_Zqof hl hini h hA, ?_⟩
  obtain ⟨c, k, i, f, a, cell, h1, h2, h3, h4, h5, h6, h7, h8, h9⟩ := Cond.laysStatic_spec hl
  exact ⟨c, k, i, f, a, cell, h1, h2, h3, h4, h5, h6, h7, h8, h9, hA a (Array.getElem?_eq_some_iff.mp h5).1⟩
theorem vx_isRef {C n d : String} {v : Value} {A : Nat → Prop} {s : State} {args : Array Value} (h : va_Z C n d v A s s.heap) (hv : v.isRef = true) : (Cond.isRef (.static C n d)).before args s = true := by
  obtain ⟨cf, kf, fi, f, a, cell, h1, h2, h3, h4, h5, h6, h7, -⟩ := h
  have he : (Term.static C n d).eval args s none [] s = some v := by
    simp [Term.eval, State.fieldNamed?, h1, h2, h4, h5, h6, h7]
  simp only [Cond.before, Cond.holds, Cond.value, he]
  cases v <;> simp_all [Value.isRef]
theorem vx_isRefq {C n d : String} {A : Nat → Prop} {s : State} {args : Array Value} (h : va_Zq C n d A s s.heap) : (Cond.isRef (.static C n d)).before args s = true := by
  rcases h with h | ⟨t, h⟩
  · exact vx_isRef h rfl
  · exact vx_isRef h rfl
/-- the same frame, seen from here: as if the method were called anew in this heap -/
theorem vx_rebase {T : State} (X : Stand p l e R s m args below meth c T locs cells slots) {R' : Room} (hf : R'.frames ≤ R.frames) (hl : R'.locals ≤ R.locals) (hc : cells + R'.cells ≤ R.cells) (hs : slots + R'.slots ≤ R.slots) :
    Stand p l e R' ((T.setVm s.vm).setFrames (.invoking m args :: below)) m args below meth c T [] 0 0 := by
  have htop : (T.setVm s.vm).topJava?.isSome := X.here.top
  have hF : ((T.setVm s.vm).setFrames (.invoking m args :: below)).frames = .invoking m args :: below := State.frames_setFrames _ (State.cur_lt_of_top htop)
  obtain ⟨g₀, hg0⟩ := Option.isSome_iff_exists.mp htop
  obtain ⟨r, hr⟩ := State.topJava?_eq_some.mp hg0
  have hl9 : e.platform.stackLimits (T.setVm s.vm).me = e.platform.stackLimits s.me := X.limits
  have hb9 : (T.setVm s.vm).me.stackBytes = s.me.stackBytes := X.bytes
  refine ⟨X.admits, X.cas, X.clock, hF, ?_, X.hears, X.method, X.code, X.here, X.tail, X.warmed, ?_, ?_, ?_⟩
  · have h := X.room
    have hU : ((T.setVm s.vm).setFrames (.invoking m args :: below)).localsInUse = s.localsInUse := by
      rw [State.localsInUse_invoking hF (meth := meth) (c := c) X.method X.code, State.localsInUse_invoking X.frames X.method X.code]
    simp only [State.hasRoom, Bool.and_eq_true, decide_eq_true_eq] at h ⊢
    obtain ⟨⟨⟨⟨h1, h2, h3, h4, h5, h6⟩, h7⟩, h8⟩, h9⟩ := h
    rw [X.frames, List.length_cons] at h2 h3
    have q1 := X.heapSize
    have q2 := X.used
    simp only [hF, hU, List.length_cons, State.stackLimits_setFrames, State.stackBytes_setFrames, hl9, hb9]
    refine ⟨⟨⟨⟨by omega, by omega, by omega, by omega, by omega, h6⟩, ?_⟩, ?_⟩, X.book⟩
    · show T.heap.size + R'.cells ≤ e.platform.maxCells
      omega
    · show T.slotsUsed + R'.slots ≤ e.platform.maxSlots
      omega
  · rw [State.stackLimits_setFrames]; rfl
  · rw [State.stackBytes_setFrames]; rfl
  · refine ⟨?_, Nat.le_refl _, Nat.le_refl _, ?_, ?_, fun a c9 h9 => ⟨c9, h9, rfl, rfl, fun _ _ => rfl⟩⟩
    · obtain ⟨t, ht, -⟩ := State.frames_cons hr
      show T.setVm s.vm = { ((T.setVm s.vm).setFrames (.invoking m args :: below)).setFrames (T.setVm s.vm).frames with heap := T.heap, slotsUsed := T.slotsUsed }
      rw [State.setFrames_setFrames, State.setFrames_self ht]
      rfl
    · show T.slotsUsed = T.slotsUsed + ((T.heap.toList.drop T.heap.size).map (·.slots.size)).sum
      rw [List.drop_eq_nil_of_le (Nat.le_of_eq Array.length_toList)]
      rfl
    · show ((T.heap.toList.drop T.heap.size).map (·.slots.size)).sum ≤ 0
      rw [List.drop_eq_nil_of_le (Nat.le_of_eq Array.length_toList)]
      exact Nat.le_refl _
/-- 'throw new E()': new; dup; invokespecial; athrow -/
theorem vx_throw0 {cc : ByteArray} {pc : Nat} (hexec : p.tables.exec = Jvm.exec) (hb : c.code = cc) (hl : l.stackTraces = false) {own cls : String} {names : List String} {ik ic mc ms : Nat} {A : Nat → Prop}
    (hown : s.vm.findClass own = some m.cls) (hcls : Bundle.fit cls = true) (hnames : ∀ n ∈ names, Bundle.fit n = true)
    (hk : (Cond.classLink own ik cls).before args s = true) (hini : (Cond.initialized cls).before args s = true) (hat : ∀ w ∈ vx_at0 own ic cls names, w.before args s = true)
    (hgood : ∀ w ∈ Cond.classLink own ik cls :: Cond.initialized cls :: vx_at0 own ic cls names, vx_ot w = true)
    (hU : vx_Zq Bundle.tN "UNASSIGNED_STACK" Bundle.steD A s s.heap) (hN : vx_Zq Bundle.tN "SUPPRESSED_SENTINEL" Bundle.listD A s s.heap) (hS : va_S A s.heap H locs) (hsize : ls.size = c.maxLocals)
    (d0 : decode cc pc = .ok (.new ik, 3)) (d3 : decode cc (pc + 3) = .ok (.dup, 1)) (d4 : decode cc (pc + 4) = .ok (.invokespecial ic, 3)) (d7 : decode cc (pc + 7) = .ok (.athrow, 1))
    (hout : ∀ x ∈ c.exceptionTable.toList, covers x (pc + 7) = false)
    (hRframes : names.length + 3 < R.frames) (hRlocals : (rest.map fun v => v.category).sum + (13 * (names.length + 1) + 42) ≤ R.locals) (hRcells : cells + 1 ≤ R.cells) (hRslots : slots + 6 ≤ R.slots) (hlocks : meth.locks = false)
    (hx : ∀ t : State, s.vm.Alike t.vm → H.size ≤ t.heap.size → (∀ q : Nat, q < H.size → t.heap[q]? = H[q]?) → XC cls s t)
    (hf : ∀ z ∈ locs, free z.base) (hc : cells + 1 ≤ mc) (hs : slots + 6 ≤ ms) :
    W p l e R s m args below meth c H locs cells slots (vx_MQ below Qc XC args s mc ms free) (F0 m pc ls rest) := by
  intro T hT X
  have htr : e.platform.stackTraces = false := (show e.platform.stackTraces = l.stackTraces by rw [X.admits.platform]).trans hl
  have Y := vx_rebase X (R' := { frames := R.frames, locals := R.locals, cells := 1, slots := 6 }) (Nat.le_refl _) (Nat.le_refl _) hRcells hRslots
  obtain ⟨s', hA⟩ : ∃ z, z = (T.setVm s.vm).setFrames (.invoking m args :: below) := ⟨_, rfl⟩
  rw [← hA] at Y
  have hvm : s'.vm = s.vm := by rw [hA]; rfl
  have hhp : s'.heap = H := by rw [hA]; exact hT
  have hW0 : s.WarmedH s'.vm := by rw [hvm]; exact State.WarmedH.refl s
  have hat' : ∀ w ∈ vx_at0 own ic cls names, w.before args s' = true := fun w hw => vx_ot_at hW0 hvm.symm (hgood w (List.mem_cons_of_mem _ (List.mem_cons_of_mem _ hw))) (hat w hw)
  have hk' : (Cond.classLink own ik cls).before args s' = true := vx_ot_at hW0 hvm.symm (hgood _ List.mem_cons_self) hk
  have hini' : (Cond.initialized cls).before args s' = true := vx_ot_at hW0 hvm.symm (hgood _ (List.mem_cons_of_mem _ List.mem_cons_self)) hini
  have hU' : vx_Zq Bundle.tN "UNASSIGNED_STACK" Bundle.steD A s' s'.heap := by rw [hhp]; exact vx_Zq.moved hW0.alike (hU.kept hS.2.1)
  have hN' : vx_Zq Bundle.tN "SUPPRESSED_SENTINEL" Bundle.listD A s' s'.heap := by rw [hhp]; exact vx_Zq.moved hW0.alike (hN.kept hS.2.1)
  have h : ∀ w ∈ Bundle.ownAtoms0 own ic cls names, w.before args s' = true := vx_own hat' (vx_isRefq hU'.1) (vx_isRefq hN'.1) hU'.2.word hN'.2.word
  have hown' : s'.vm.findClass own = some m.cls := by rw [hvm]; exact hown
  have hins : (Cond.instantiable cls 6).before args s' = true := h _ (by simp [Bundle.ownAtoms0])
  obtain ⟨vm₁, cX, kX, hfX, hkX, -, -, X₁, st1⟩ := Y.newCold hexec (own := own) (C := cls) (index := ik) (n := 6) hown' hk' hins hini'
    (g := F0 m pc ls rest) rfl (by rw [hb]; exact d0) (Nat.le_refl _) (Nat.le_refl _)
  generalize hT1 : (T.setVm vm₁).pushCell { cls := cX, slots := kX.instanceTypes.map defaultValue, vm := .none } = T1 at X₁ st1
  have hcat : (Value.ref T.heap.size).category = 1 := rfl
  have hcellA : T1.heap[T.heap.size]? = some (freshCell cX kX) := by rw [← hT1]; exact State.heap_pushCell_size _ _
  have d3' : decode c.code (pc + 3) = .ok (.dup, 1) := by rw [hb]; exact d3
  obtain ⟨U, hsteps, hrun, hend, hW, hsame, ce, hce, hO⟩ := X₁.ctorThrow0 hexec htr (own := own) (cls := cls) (names := names) (ic := ic) hown' hcls hnames h (fun x hx => nomatch hx) hfX hkX hcellA (by rw [hhp, hT]; exact Nat.le_refl _)
    (g := { method := m, pc := pc + 4, locals := ls, stack := .ref T.heap.size :: .ref T.heap.size :: rest, locked := none }) rfl hsize rfl rfl (rest := rest) rfl
    (by rw [hb]; exact d4) (by rw [hb]; exact d7) hout hRframes (by simp only [List.map_cons, List.sum_cons, hcat]; omega) hlocks
  obtain ⟨f1, f2⟩ := vx_frame hsame
  rw [hhp] at f1 f2
  have hWs : s.WarmedH U.vm := State.WarmedH.trans hW0 hW
  have hcl : s.vm.findClass cls = some ce.cls := by
    have h9 := hO.cls
    rw [hvm] at h9
    exact h9
  have hall : s.sameButNew ({ U with vm := s.vm } : State) locs mc ms := by
    subst hA
    obtain ⟨e1, e2⟩ := hsame
    rw [State.setFrames_setFrames] at e1
    have h2 : (T.setVm s.vm).sameButNew ({ U with vm := s.vm } : State) [] (0 + 1) (0 + 6) := ⟨e1, e2⟩
    have h3 := X.same.trans h2
    rw [List.append_nil] at h3
    exact h3.mono hc hs
  refine ⟨U, ?_, .threw T.heap.size, hrun, hend, Or.inr ⟨T.heap.size, rfl, cls, ce, locs, hx U hWs.alike f1 (fun q hq => f2 q hq (fun z hz => nomatch hz)), hce, hO.vm, hcl, hWs, hall, hf⟩⟩
  refine st1 _ ?_
  show Steps p.tables e below (T1.setTop { method := m, pc := pc + 3, locals := ls, stack := .ref T.heap.size :: rest, locked := none }) _
  jvm_step X₁.here [X₁.here.top, hexec, d3', Value.category]
  exact hsteps
/-- 'throw new E("text")': new; dup; ldc; invokespecial; athrow -/
theorem vx_throwS {cc : ByteArray} {pc : Nat} (hexec : p.tables.exec = Jvm.exec) (hb : c.code = cc) (hl : l.stackTraces = false) {own cls text : String} {names : List String} {ik is ic mc ms sa : Nat} {A : Nat → Prop}
    (hown : s.vm.findClass own = some m.cls) (hcls : Bundle.fit cls = true) (hnames : ∀ n ∈ names, Bundle.fit n = true)
    (hk : (Cond.classLink own ik cls).before args s = true) (hini : (Cond.initialized cls).before args s = true) (hstr : vk_R own is text sa s) (hat : ∀ w ∈ vx_atS own ic cls names, w.before args s = true)
    (hgood : ∀ w ∈ Cond.classLink own ik cls :: Cond.initialized cls :: vx_atS own ic cls names, vx_ot w = true)
    (hU : vx_Zq Bundle.tN "UNASSIGNED_STACK" Bundle.steD A s s.heap) (hN : vx_Zq Bundle.tN "SUPPRESSED_SENTINEL" Bundle.listD A s s.heap) (hS : va_S A s.heap H locs) (hsize : ls.size = c.maxLocals)
    (d0 : decode cc pc = .ok (.new ik, 3)) (d3 : decode cc (pc + 3) = .ok (.dup, 1)) (d4 : decode cc (pc + 4) = .ok (.ldc is, 2)) (d6 : decode cc (pc + 6) = .ok (.invokespecial ic, 3)) (d9 : decode cc (pc + 9) = .ok (.athrow, 1))
    (hout : ∀ x ∈ c.exceptionTable.toList, covers x (pc + 9) = false)
    (hRframes : names.length + 3 < R.frames) (hRlocals : (rest.map fun v => v.category).sum + (13 * (names.length + 1) + 43) ≤ R.locals) (hRcells : cells + 1 ≤ R.cells) (hRslots : slots + 6 ≤ R.slots) (hlocks : meth.locks = false)
    (hx : ∀ t : State, s.vm.Alike t.vm → H.size ≤ t.heap.size → (∀ q : Nat, q < H.size → t.heap[q]? = H[q]?) → XC cls s t)
    (hf : ∀ z ∈ locs, free z.base) (hc : cells + 1 ≤ mc) (hs : slots + 6 ≤ ms) :
    W p l e R s m args below meth c H locs cells slots (vx_MQ below Qc XC args s mc ms free) (F0 m pc ls rest) := by
  intro T hT X
  have htr : e.platform.stackTraces = false := (show e.platform.stackTraces = l.stackTraces by rw [X.admits.platform]).trans hl
  have Y := vx_rebase X (R' := { frames := R.frames, locals := R.locals, cells := 1, slots := 6 }) (Nat.le_refl _) (Nat.le_refl _) hRcells hRslots
  obtain ⟨s', hA⟩ : ∃ z, z = (T.setVm s.vm).setFrames (.invoking m args :: below) := ⟨_, rfl⟩
  rw [← hA] at Y
  have hvm : s'.vm = s.vm := by rw [hA]; rfl
  have hhp : s'.heap = H := by rw [hA]; exact hT
  have hW0 : s.WarmedH s'.vm := by rw [hvm]; exact State.WarmedH.refl s
  have hat' : ∀ w ∈ vx_atS own ic cls names, w.before args s' = true := fun w hw => vx_ot_at hW0 hvm.symm (hgood w (List.mem_cons_of_mem _ (List.mem_cons_of_mem _ hw))) (hat w hw)
  have hk' : (Cond.classLink own ik cls).before args s' = true := vx_ot_at hW0 hvm.symm (hgood _ List.mem_cons_self) hk
  have hini' : (Cond.initialized cls).before args s' = true := vx_ot_at hW0 hvm.symm (hgood _ (List.mem_cons_of_mem _ List.mem_cons_self)) hini
  have hU' : vx_Zq Bundle.tN "UNASSIGNED_STACK" Bundle.steD A s' s'.heap := by rw [hhp]; exact vx_Zq.moved hW0.alike (hU.kept hS.2.1)
  have hN' : vx_Zq Bundle.tN "SUPPRESSED_SENTINEL" Bundle.listD A s' s'.heap := by rw [hhp]; exact vx_Zq.moved hW0.alike (hN.kept hS.2.1)
  have h : ∀ w ∈ Bundle.ownAtoms own ic cls names, w.before args s' = true := vx_own hat' (vx_isRefq hU'.1) (vx_isRefq hN'.1) hU'.2.word hN'.2.word
  have hown' : s'.vm.findClass own = some m.cls := by rw [hvm]; exact hown
  have hins : (Cond.instantiable cls 6).before args s' = true := h _ (by simp [Bundle.ownAtoms])
  obtain ⟨vm₁, cX, kX, hfX, hkX, -, -, X₁, st1⟩ := Y.newCold hexec (own := own) (C := cls) (index := ik) (n := 6) hown' hk' hins hini'
    (g := F0 m pc ls rest) rfl (by rw [hb]; exact d0) (Nat.le_refl _) (Nat.le_refl _)
  generalize hT1 : (T.setVm vm₁).pushCell { cls := cX, slots := kX.instanceTypes.map defaultValue, vm := .none } = T1 at X₁ st1
  have hcat : (Value.ref T.heap.size).category = 1 := rfl
  have hcellA : T1.heap[T.heap.size]? = some (freshCell cX kX) := by rw [← hT1]; exact State.heap_pushCell_size _ _
  have d3' : decode c.code (pc + 3) = .ok (.dup, 1) := by rw [hb]; exact d3
  have d4' : decode c.code (pc + 4) = .ok (.ldc is, 2) := by rw [hb]; exact d4
  have hstr' : vk_R own is text sa s' := vk_R.warm hW0 hstr
  obtain ⟨U, hsteps, hrun, hend, hW, hsame, ce, hce, hO⟩ := X₁.ctorThrowS hexec htr (own := own) (cls := cls) (names := names) (ic := ic) hown' hcls hnames h (fun x hx => nomatch hx) hfX hkX hcellA (by rw [hhp, hT]; exact Nat.le_refl _) (msg := .ref sa) rfl
    (g := { method := m, pc := pc + 6, locals := ls, stack := .ref sa :: .ref T.heap.size :: .ref T.heap.size :: rest, locked := none }) rfl hsize rfl rfl (rest := rest) rfl
    (by rw [hb]; exact d6) (by rw [hb]; exact d9) hout hRframes (by simp only [List.map_cons, List.sum_cons, hcat]; omega) hlocks
  obtain ⟨f1, f2⟩ := vx_frame hsame
  rw [hhp] at f1 f2
  have hWs : s.WarmedH U.vm := State.WarmedH.trans hW0 hW
  have hcl : s.vm.findClass cls = some ce.cls := by
    have h9 := hO.cls
    rw [hvm] at h9
    exact h9
  have hall : s.sameButNew ({ U with vm := s.vm } : State) locs mc ms := by
    subst hA
    obtain ⟨e1, e2⟩ := hsame
    rw [State.setFrames_setFrames] at e1
    have h2 : (T.setVm s.vm).sameButNew ({ U with vm := s.vm } : State) [] (0 + 1) (0 + 6) := ⟨e1, e2⟩
    have h3 := X.same.trans h2
    rw [List.append_nil] at h3
    exact h3.mono hc hs
  refine ⟨U, ?_, .threw T.heap.size, hrun, hend, Or.inr ⟨T.heap.size, rfl, cls, ce, locs, hx U hWs.alike f1 (fun q hq => f2 q hq (fun z hz => nomatch hz)), hce, hO.vm, hcl, hWs, hall, hf⟩⟩
  refine st1 _ ?_
  show Steps p.tables e below (T1.setTop { method := m, pc := pc + 3, locals := ls, stack := .ref T.heap.size :: rest, locked := none }) _
  jvm_step X₁.here [X₁.here.top, hexec, d3', Value.category]
  exact X₁.ldcString hexec (own := own) (text := text) (index := is) (a := sa) hown' hstr'.1 hstr'.2
    (g := { method := m, pc := pc + 4, locals := ls, stack := .ref T.heap.size :: .ref T.heap.size :: rest, locked := none }) rfl d4' _ hsteps
/-- 'throw new E("text")', the text by a wide index -/
theorem vx_throwSW {cc : ByteArray} {pc : Nat} (hexec : p.tables.exec = Jvm.exec) (hb : c.code = cc) (hl : l.stackTraces = false) {own cls text : String} {names : List String} {ik is ic mc ms sa : Nat} {A : Nat → Prop}
    (hown : s.vm.findClass own = some m.cls) (hcls : Bundle.fit cls = true) (hnames : ∀ n ∈ names, Bundle.fit n = true)
    (hk : (Cond.classLink own ik cls).before args s = true) (hini : (Cond.initialized cls).before args s = true) (hstr : vk_R own is text sa s) (hat : ∀ w ∈ vx_atS own ic cls names, w.before args s = true)
    (hgood : ∀ w ∈ Cond.classLink own ik cls :: Cond.initialized cls :: vx_atS own ic cls names, vx_ot w = true)
    (hU : vx_Zq Bundle.tN "UNASSIGNED_STACK" Bundle.steD A s s.heap) (hN : vx_Zq Bundle.tN "SUPPRESSED_SENTINEL" Bundle.listD A s s.heap) (hS : va_S A s.heap H locs) (hsize : ls.size = c.maxLocals)
    (d0 : decode cc pc = .ok (.new ik, 3)) (d3 : decode cc (pc + 3) = .ok (.dup, 1)) (d4 : decode cc (pc + 4) = .ok (.ldc_w is, 3)) (d7 : decode cc (pc + 7) = .ok (.invokespecial ic, 3)) (d10 : decode cc (pc + 10) = .ok (.athrow, 1))
    (hout : ∀ x ∈ c.exceptionTable.toList, covers x (pc + 10) = false)
    (hRframes : names.length + 3 < R.frames) (hRlocals : (rest.map fun v => v.category).sum + (13 * (names.length + 1) + 43) ≤ R.locals) (hRcells : cells + 1 ≤ R.cells) (hRslots : slots + 6 ≤ R.slots) (hlocks : meth.locks = false)
    (hx : ∀ t : State, s.vm.Alike t.vm → H.size ≤ t.heap.size → (∀ q : Nat, q < H.size → t.heap[q]? = H[q]?) → XC cls s t)
    (hf : ∀ z ∈ locs, free z.base) (hc : cells + 1 ≤ mc) (hs : slots + 6 ≤ ms) :
    W p l e R s m args below meth c H locs cells slots (vx_MQ below Qc XC args s mc ms free) (F0 m pc ls rest) := by
  intro T hT X
  have htr : e.platform.stackTraces = false := (show e.platform.stackTraces = l.stackTraces by rw [X.admits.platform]).trans hl
  have Y := vx_rebase X (R' := { frames := R.frames, locals := R.locals, cells := 1, slots := 6 }) (Nat.le_refl _) (Nat.le_refl _) hRcells hRslots
  obtain ⟨s', hA⟩ : ∃ z, z = (T.setVm s.vm).setFrames (.invoking m args :: below) := ⟨_, rfl⟩
  rw [← hA] at Y
  have hvm : s'.vm = s.vm := by rw [hA]; rfl
  have hhp : s'.heap = H := by rw [hA]; exact hT
  have hW0 : s.WarmedH s'.vm := by rw [hvm]; exact State.WarmedH.refl s
  have hat' : ∀ w ∈ vx_atS own ic cls names, w.before args s' = true := fun w hw => vx_ot_at hW0 hvm.symm (hgood w (List.mem_cons_of_mem _ (List.mem_cons_of_mem _ hw))) (hat w hw)
  have hk' : (Cond.classLink own ik cls).before args s' = true := vx_ot_at hW0 hvm.symm (hgood _ List.mem_cons_self) hk
  have hini' : (Cond.initialized cls).before args s' = true := vx_ot_at hW0 hvm.symm (hgood _ (List.mem_cons_of_mem _ List.mem_cons_self)) hini
  have hU' : vx_Zq Bundle.tN "UNASSIGNED_STACK" Bundle.steD A s' s'.heap := by rw [hhp]; exact vx_Zq.moved hW0.alike (hU.kept hS.2.1)
  have hN' : vx_Zq Bundle.tN "SUPPRESSED_SENTINEL" Bundle.listD A s' s'.heap := by rw [hhp]; exact vx_Zq.moved hW0.alike (hN.kept hS.2.1)
  have h : ∀ w ∈ Bundle.ownAtoms own ic cls names, w.before args s' = true := vx_own hat' (vx_isRefq hU'.1) (vx_isRefq hN'.1) hU'.2.word hN'.2.word
  have hown' : s'.vm.findClass own = some m.cls := by rw [hvm]; exact hown
  have hins : (Cond.instantiable cls 6).before args s' = true := h _ (by simp [Bundle.ownAtoms])
  obtain ⟨vm₁, cX, kX, hfX, hkX, -, -, X₁, st1⟩ := Y.newCold hexec (own := own) (C := cls) (index := ik) (n := 6) hown' hk' hins hini'
    (g := F0 m pc ls rest) rfl (by rw [hb]; exact d0) (Nat.le_refl _) (Nat.le_refl _)
  generalize hT1 : (T.setVm vm₁).pushCell { cls := cX, slots := kX.instanceTypes.map defaultValue, vm := .none } = T1 at X₁ st1
  have hcat : (Value.ref T.heap.size).category = 1 := rfl
  have hcellA : T1.heap[T.heap.size]? = some (freshCell cX kX) := by rw [← hT1]; exact State.heap_pushCell_size _ _
  have d3' : decode c.code (pc + 3) = .ok (.dup, 1) := by rw [hb]; exact d3
  have d4' : decode c.code (pc + 4) = .ok (.ldc_w is, 3) := by rw [hb]; exact d4
  have hstr' : vk_R own is text sa s' := vk_R.warm hW0 hstr
  obtain ⟨U, hsteps, hrun, hend, hW, hsame, ce, hce, hO⟩ := X₁.ctorThrowS hexec htr (own := own) (cls := cls) (names := names) (ic := ic) hown' hcls hnames h (fun x hx => nomatch hx) hfX hkX hcellA (by rw [hhp, hT]; exact Nat.le_refl _) (msg := .ref sa) rfl
    (g := { method := m, pc := pc + 7, locals := ls, stack := .ref sa :: .ref T.heap.size :: .ref T.heap.size :: rest, locked := none }) rfl hsize rfl rfl (rest := rest) rfl
    (by rw [hb]; exact d7) (by rw [hb]; exact d10) hout hRframes (by simp only [List.map_cons, List.sum_cons, hcat]; omega) hlocks
  obtain ⟨f1, f2⟩ := vx_frame hsame
  rw [hhp] at f1 f2
  have hWs : s.WarmedH U.vm := State.WarmedH.trans hW0 hW
  have hcl : s.vm.findClass cls = some ce.cls := by
    have h9 := hO.cls
    rw [hvm] at h9
    exact h9
  have hall : s.sameButNew ({ U with vm := s.vm } : State) locs mc ms := by
    subst hA
    obtain ⟨e1, e2⟩ := hsame
    rw [State.setFrames_setFrames] at e1
    have h2 : (T.setVm s.vm).sameButNew ({ U with vm := s.vm } : State) [] (0 + 1) (0 + 6) := ⟨e1, e2⟩
    have h3 := X.same.trans h2
    rw [List.append_nil] at h3
    exact h3.mono hc hs
  refine ⟨U, ?_, .threw T.heap.size, hrun, hend, Or.inr ⟨T.heap.size, rfl, cls, ce, locs, hx U hWs.alike f1 (fun q hq => f2 q hq (fun z hz => nomatch hz)), hce, hO.vm, hcl, hWs, hall, hf⟩⟩
  refine st1 _ ?_
  show Steps p.tables e below (T1.setTop { method := m, pc := pc + 3, locals := ls, stack := .ref T.heap.size :: rest, locked := none }) _
  jvm_step X₁.here [X₁.here.top, hexec, d3', Value.category]
  exact X₁.ldcStringW hexec (own := own) (text := text) (index := is) (a := sa) hown' hstr'.1 hstr'.2
    (g := { method := m, pc := pc + 4, locals := ls, stack := .ref T.heap.size :: .ref T.heap.size :: rest, locked := none }) rfl d4' _ hsteps
end Ends
section Bodies
variable {l : Launch}
theorem vx_ofW {y : MethodName} {ws ws' : List Cond} {rm : Room} {Pc : Array Value → State → Prop} {Qc : Array Value → State → Outcome → State → Prop} {XC : String → State → State → Prop} {mc ms : Nat} {free : Addr → Prop} {cc : ByteArray} {maxL : Nat} {ret : Option FieldType}
    (hy : plainName y.cls = true) (hw : ws = Cond.code y cc maxL ret :: ws')
    (body : ∀ p e s m args below meth c s₁, BodyLoose p l y (headSpec ws rm) cc maxL ret e s m args below meth c s₁ → c.maxLocals = maxL → (∀ x ∈ c.exceptionTable.toList, False) → Pc args s →
      W p l e (headSpec ws rm).room s m args below meth c s.heap [] 0 0 (vx_MQ below Qc XC args s mc ms free) (entryFrame m args maxL)) : vx_Met l y ws rm Pc Qc XC mc ms free := by
  refine MetFree.of_bodyS (code := cc) (maxLocals := maxL) (ret := ret) hy ?_ ?_
  · intro args s m h hn
    obtain ⟨meth, c, h1, h2, h3, h4, h5, h6, -, -⟩ := Cond.code_spec hn (atoms_spec (ws := ws) h _ (by rw [hw]; exact List.mem_cons_self))
    exact ⟨meth, c, h1, h2, h3, h4, h5, h6⟩
  · intro p e s m args below meth c s₁ B hml hP _
    have hh0 : s₁.heap = s.heap := by rw [B.state]; rfl
    have ht : ∀ x ∈ c.exceptionTable.toList, False := by
      obtain ⟨meth9, c9, h1, h2, -, -, -, -, h7, -⟩ := Cond.code_spec B.named (atoms_spec (ws := ws) B.pre _ (by rw [hw]; exact List.mem_cons_self))
      cases Option.some.inj (h1.symm.trans B.method)
      cases Option.some.inj (h2.symm.trans (Stand.of_body B).code)
      intro x hx
      rw [Array.isEmpty_iff.mp h7] at hx
      cases hx
    obtain ⟨t, a1, o, b1, b2, b3⟩ := body p e s m args below meth c s₁ B hml ht hP s₁ hh0 (Stand.of_body B)
    exact ⟨t, o, a1, b1, b2, b3⟩
/-- the table of a body with handlers -/
theorem vx_table {p : Program} {x y : MethodName} {S : Spec} {cc bytes : ByteArray} {maxL maxL' : Nat} {ret ret' : Option FieldType} {e : Env} {s s₁ : State} {m : MethodId} {args : Array Value} {below : List Frame} {meth : Method} {c : Code} {hh : List (Nat × Nat × Nat × Nat)}
    (B : BodyLoose p l y S cc maxL ret e s m args below meth c s₁) (h : (Cond.codeWith y bytes maxL' ret' hh).before args s = true) : c.exceptionTable.toList = tableOf hh := by
  obtain ⟨m9, meth9, c9, hn9, h1, h2, -, -, h6, -⟩ := Cond.codeWith_spec h
  cases Option.some.inj (hn9.symm.trans B.named)
  cases Option.some.inj (h1.symm.trans B.method)
  cases Option.some.inj (h2.symm.trans (Stand.of_body B).code)
  rw [← h6, table_eq]
end Bodies
end VXA
/-! ===== END ===== -/
/-! ===== BEGIN a static call of a method with an exception table ===== -/
section VXS
variable {p : Program} {l : Launch} {e : Env} {R : Room} {s : State} {m : MethodId} {args : Array Value} {below : List Frame} {meth : Method} {c : Code} {T : State} {H : Heap} {locs : List Loc} {cells slots : Nat}
abbrev vx_CSW (R : Room) (s : State) (args : Array Value) (own : String) (index : Nat) (y : MethodName) (bytes : ByteArray) (maxL : Nat) (ret : Option FieldType) (hh : List (Nat × Nat × Nat × Nat)) (ws : List Cond) (rm : Room) (mc ms n : Nat) : Prop :=
  (rm.cells = mc ∧ rm.slots = ms ∧ rm.frames + 1 ≤ R.frames ∧ 8 + (maxL + 11) + rm.locals ≤ R.locals ∧ (∀ w ∈ ws, ∀ (a' : Array Value) (U : State), s.WarmedH U.vm → w.before a' U = true) ∧ Cond.codeWith y bytes maxL ret hh ∈ ws) ∧
  (Cond.codeWith y bytes maxL ret hh).before args s = true ∧ (Cond.initialized y.cls).before args s = true ∧ (y.cls ≠ "java/lang/invoke/MethodHandle" ∧ y.cls ≠ "java/lang/invoke/VarHandle") ∧
  (∀ sig, parseMethodDescriptor y.desc = some sig → n = sig.parameters.length) ∧ (Cond.methodLink own index y).before args s = true ∧ (Cond.static y).before args s = true
theorem vx_cwSW {own : String} {index maxL mc ms : Nat} {y : MethodName} {bytes : ByteArray} {ret : Option FieldType} {hh : List (Nat × Nat × Nat × Nat)} {Ts ws ws' : List Cond} {rm : Room} (n : Nat) (ht : ∀ w ∈ Ts, w.before args s = true) (hT : GoodIn Ts (va_wsS own index y ws)) (hw : ws = Cond.codeWith y bytes maxL ret hh :: ws') (hrc : rm.cells = mc) (hrs : rm.slots = ms)
    (hd : y.cls ≠ "java/lang/invoke/MethodHandle" ∧ y.cls ≠ "java/lang/invoke/VarHandle" ∧ (parseMethodDescriptor y.desc).map (fun d => d.parameters.length) = some n) (hR : rm.frames + 1 ≤ R.frames ∧ 8 + (maxL + 11) + rm.locals ≤ R.locals) :
    vx_CSW R s args own index y bytes maxL ret hh ws rm mc ms n := by
  have ok : ∀ w ∈ va_wsS own index y ws, w.before args s = true := fun w h => ht w (hT w h).1
  have hG : GoodIn Ts ws := fun w h => hT w (by unfold va_wsS; exact List.mem_append_right _ h)
  have hc : Cond.codeWith y bytes maxL ret hh ∈ ws := by rw [hw]; exact List.mem_cons_self
  refine ⟨⟨hrc, hrs, hR.1, hR.2, pay_in ht hG, hc⟩, ht _ (hG _ hc).1, ok _ (by simp [va_wsS]), ⟨hd.1, hd.2.1⟩, fun sig h => ?_, ok _ (by simp [va_wsS]), ok _ (by simp [va_wsS])⟩
  have h2 := hd.2.2
  rw [h] at h2
  exact (Option.some.inj h2).symm
theorem vx_callSW (X : Stand p l e R s m args below meth c T locs cells slots) (hexec : p.tables.exec = Jvm.exec) {own : String} {index : Nat} {y : MethodName} {bytes : ByteArray} {maxL : Nat} {ret : Option FieldType} {hh : List (Nat × Nat × Nat × Nat)}
    (hown : s.vm.findClass own = some m.cls) (hlink : (Cond.methodLink own index y).before args s = true) (hstat : (Cond.static y).before args s = true) (hinit : (Cond.initialized y.cls).before args s = true)
    (hcode : (Cond.codeWith y bytes maxL ret hh).before args s = true) (hy : y.cls ≠ "java/lang/invoke/MethodHandle" ∧ y.cls ≠ "java/lang/invoke/VarHandle")
    {W9 : Nat} {Pre : Pt → Array Value → Prop} {Post : Pt → Array Value → Option Value → Pt → Prop} (hK : Back l R p e below s args y 3 W9 Pre Post)
    {g : JFrame} (hg : g.method = m) (hsize : g.locals.size = c.maxLocals) {argsL rest : List Value} (hlen : ∀ sig, parseMethodDescriptor y.desc = some sig → argsL.length = sig.parameters.length)
    (hstack : g.stack = argsL.reverse ++ rest) (hW : 2 * g.monitorRoom + (rest.map fun v => v.category).sum ≤ W9) (hdg : decode c.code g.pc = .ok (.invokestatic index, 3))
    (hpre : ∀ vm₁, s.WarmedH vm₁ → Pre ⟨T.setVm vm₁, locs, cells, slots⟩ argsL.toArray) :
    ∃ (v : Option Value) (vm₁ : Vm) (B : Pt), s.WarmedH vm₁ ∧ Stand p l e R s m args below meth c B.U B.locs B.cells B.slots ∧ Post ⟨T.setVm vm₁, locs, cells, slots⟩ argsL.toArray v B ∧
      ∀ target, Steps p.tables e below (B.U.setTop { g with pc := g.pc + 3, stack := v.toList ++ rest }) target → Steps p.tables e below (T.setTop g) target := by
  obtain ⟨mk, methM, cM, hnamed, hmethM, -, -, -, -, -, -, hsigM⟩ := Cond.codeWith_spec hcode
  have hstatic : methM.isStatic = true := Cond.static_spec hnamed hmethM hstat
  obtain ⟨kP, hkP, -⟩ := className_of_methodNamed hnamed
  have hinitP : kP.init = .initialized := Cond.initialized_spec (findClass_of_methodNamed hnamed) hkP hinit
  obtain ⟨vm₁, X₁, hstep₁⟩ := X.invokestatic hexec hown hlink hnamed hmethM hstatic hkP hinitP hy (g := g) hg (argsL := argsL) (rest := rest) (hlen _ hsigM) hstack hdg
  obtain ⟨v, B, X', hpost, hsteps⟩ := hK m meth c ⟨T.setVm vm₁, locs, cells, slots⟩ { g with stack := rest } (.invokestatic index) mk argsL.toArray X₁ hg hsize hdg hW (X₁.named hnamed) (hpre vm₁ X₁.warmed)
  exact ⟨v, vm₁, B, X₁.warmed, X', hpost, fun target h => hstep₁ _ fun acts => by rw [doInvoke_state]; exact hsteps.trans h⟩
theorem vx_runSW {y : MethodName} {bytes cc : ByteArray} {maxL nL mc ms n index : Nat} {ret : Option FieldType} {hh : List (Nat × Nat × Nat × Nat)} {ws : List Cond} {rm : Room} {Pc : Array Value → State → Prop} {Qc : Array Value → State → Outcome → State → Prop} {free : Addr → Prop} {Ts : List Cond} {own : String} {As rest : List Value} {g : JFrame}
    (S : CallFix p m c cc nL s args Ts own) (hM : Met l y ws rm Pc Qc mc ms free) (cw : vx_CSW R s args own index y bytes maxL ret hh ws rm mc ms n) (hp : PreS s H Pc As)
    (hg : g.method = m) (hn : As.length = n) (hsize : g.locals.size = nL) (hstack : g.stack = As.reverse ++ rest) (hW : 2 * g.monitorRoom + (rest.map fun v => v.category).sum ≤ 8) (hdg : decode cc g.pc = .ok (.invokestatic index, 3)) (hf : cells + mc ≤ R.cells ∧ slots + ms ≤ R.slots) :
    va_Run p l e R s m args below meth c H locs cells slots mc ms g rest (Qc As.toArray) (free) := by
  obtain ⟨⟨hrc, hrs, hfr, hlo, hws, hcw⟩, hcode, hini, hy, hlen, hl, hstt⟩ := cw
  have hK : Back l R p e below s args y 3 8 (PreOf R mc ms Pc) (PostOf Qc mc ms free) := va_backW (hh := hh) (bytes := bytes) (maxL := maxL) (ret := ret) hM hp.1 hrc hrs hfr hlo hws hcw (fun a' U hW => word_at hW (Or.inl (by first | rfl | simp [Cond.onTables, Cond.keeps, Cond.steady])) hini)
  obtain ⟨hx, hb, hml, ho, -⟩ := S
  intro T hT X
  obtain ⟨v, vm₁, ⟨U', l2, c2, s2⟩, hW₁, X', ⟨g', mk, t, L, e1, e2, hq, h1, hL, h2, h3⟩, st⟩ := vx_callSW X hx (hh := hh) (bytes := bytes) (maxL := maxL) (ret := ret) ho hl hstt hini hcode hy hK hg (hsize.trans hml.symm) (argsL := As) (rest := rest) (fun sig h => hn.trans (hlen sig h)) hstack hW (by rw [hb]; exact hdg)
    (fun vm₁ hW₁ => ⟨hf.1, hf.2, hp.2 (T.setVm vm₁) hT hW₁⟩)
  dsimp only [Pt.U, Pt.locs, Pt.cells, Pt.slots] at X' e1 e2 h1 h2 h3 st
  subst h1; subst h2; subst h3
  exact ⟨v, (T.setVm vm₁).calling g' mk As.toArray, t, U', L, hT, X', hL, e1, e2, hq, st⟩
/-- not caught here, past rows that name other classes: it goes on to the caller -/
theorem vx_outP {p : Program} {l : Launch} {e : Env} {R : Room} {s : State} {m : MethodId} {args : Array Value} {below : List Frame} {meth : Method} {c : Code} {H : Heap} {locs : List Loc} {cells slots : Nat} {free : Addr → Prop} {ls : Array Slot} {rest : List Value} {Qc : Array Value → State → Outcome → State → Prop} {XC : String → State → State → Prop}
    {pc : Nat} {own E : String} {ce : Cell} {q : Addr} {mc ms : Nat} (hown : s.vm.findClass own = some m.cls) (hlocks : meth.locks = false)
    (hpass : ∀ z ∈ c.exceptionTable.toList, covers z pc = false ∨ (z.catchType ≠ 0 ∧ ∃ nm : String, (Cond.classLink own z.catchType nm).before args s = true ∧ va_Nc E nm s)) (hcell : H[q]? = some ce) (hv : ce.vm = .none) (hcl : s.vm.findClass E = some ce.cls)
    (hx : ∀ t : State, t.heap = H → s.vm.Alike t.vm → XC E s t) (hf : ∀ z ∈ locs, free z.base) (hc : cells ≤ mc) (hs : slots ≤ ms) :
    vx_W p l e R s m args below meth c H locs cells slots (vx_MQ below Qc XC args s mc ms free) (F0 m pc ls rest) q := by
  intro T hT X
  have hpl : e.platform.magicAccessors = ({} : Platform).magicAccessors := by rw [X.admits.platform]
  obtain ⟨vm', hW', X', st⟩ := X.outThrough hlocks q (g := F0 m pc ls rest) rfl rfl rfl (cell := ce) (by rw [hT]; exact hcell) (by rw [hv]; rfl)
    (by obtain ⟨k9, h9, -⟩ := Vm.findClass_spec hcl; exact ⟨k9, h9⟩) (fun z hz => by
      rcases hpass z hz with h | ⟨hz0, nm, hl1, hn1⟩
      · exact Or.inl h
      · obtain ⟨c6, hc6, hcl6⟩ := Cond.classLink_spec hown hl1 e.platform hpl
        obtain ⟨a8, b8, h1, h2, h3⟩ := hn1
        cases Option.some.inj (h1.symm.trans hcl)
        cases Option.some.inj (h2.symm.trans hc6)
        exact Or.inr ⟨hz0, _, hcl6, h3⟩)
  obtain ⟨g₀, hfr⟩ := X'.frames_eq
  have hcell9 : ((T.setVm vm').setFrames (.throwing q :: below)).heap[q]? = some ce := by
    show T.heap[q]? = some ce
    rw [hT]; exact hcell
  have hend : Ended ((T.setVm vm').setFrames (.throwing q :: below)) below (.threw q) := State.frames_setFrames _ (State.cur_lt_of_frames hfr)
  refine ⟨(T.setVm vm').setFrames (.throwing q :: below), ?_, .threw q, X'.here.running, hend, Or.inr ⟨q, rfl, E, ce, locs, hx _ hT (X'.ends _).1.alike, hcell9, hv, hcl, (X'.ends _).1, (X'.ends _).2.mono hc hs, hf⟩⟩
  rw [X.pushThrowing_eq]
  exact st
/-- a thing of a world lies in the heap -/
theorem vx_lt {D : va_G} {cl : List vw_C} {ws : va_W} {H1 : Heap} (h : va_P D cl ws H1) {k : Nat} {q : Nat × va_E} (hk : ws[k]? = some q) : q.1 < H1.size := (h k q hk).lt
end VXS
/-! ===== END ===== -/
/-! ===== BEGIN methods with a table of their own: called by a name, returning or throwing ===== -/
section VXH
/-! vx_backW, vx_callVX, vx_callSX, vx_callVW, vx_runVW, vx_runVX, vx_runSX, vx_ofWH follow the same proofs as their sisters above (Free/Laws.lean, Shelf42/LK1.lean); vx_outP calls Shelf42/NT130.lean (outThrough). -/
section
variable {l : Launch} {R : Room} {p : Program} {e : Env} {below : List Frame} {s : State} {sargs : Array Value} {y : MethodName} {len W9 : Nat}
theorem vx_backW {ws : List Cond} {rm : Room} {Pc : Array Value → State → Prop} {Qc : Array Value → State → Outcome → State → Prop} {XC : String → State → State → Prop} {mc ms : Nat} {free : Addr → Prop} {bytes : ByteArray} {maxL : Nat} {ret : Option FieldType} {hh : List (Nat × Nat × Nat × Nat)}
    (hM : vx_Met l y ws rm Pc Qc XC mc ms free) (hblind : FrameBlind Pc) (hrc : rm.cells = mc) (hrs : rm.slots = ms)
    (hframes : rm.frames + 1 ≤ R.frames) (hlocals : W9 + (maxL + 11) + rm.locals ≤ R.locals)
    (hws : ∀ w ∈ ws, ∀ a' U, s.WarmedH U.vm → w.before a' U = true) (hcode : Cond.codeWith y bytes maxL ret hh ∈ ws) (hinit : ∀ a' U, s.WarmedH U.vm → (Cond.initialized y.cls).before a' U = true) :
    vx_Back l R p e below s sargs y len W9 (PreOf R mc ms Pc) (PostOf Qc mc ms free) (vx_Post XC mc ms free) := by
  intro m meth c A g ig mk a X hg hsize hdg hW hn hp
  have h1 : (headSpec ws rm).pre.before a A.U = true := atoms_intro fun w hw => hws w hw _ _ X.warmed
  have h2 : (Cond.codeWith y bytes maxL ret hh).before a A.U = true := hws _ hcode _ _ X.warmed
  have h3 : (Cond.initialized y.cls).before a A.U = true := hinit _ _ X.warmed
  have h4 : A.cells + (headSpec ws rm).room.cells ≤ R.cells := by rw [show (headSpec ws rm).room.cells = mc from hrc]; exact hp.1
  have h5 : A.slots + (headSpec ws rm).room.slots ≤ R.slots := by rw [show (headSpec ws rm).room.slots = ms from hrs]; exact hp.2.1
  have hPc : Pc a (A.U.calling g mk a) := hblind _ _ _ _ hp.2.2
  obtain ⟨U, Ls, c0, s0⟩ := A
  dsimp only [Pt.U, Pt.locs, Pt.cells, Pt.slots] at h1 h2 h3 h4 h5 X hn hPc ⊢
  obtain ⟨m9, methY, cY, hn9, hmY, hcY, -, hlY, -⟩ := Cond.codeWith_spec h2
  cases Option.some.inj (hn9.symm.trans hn)
  obtain ⟨kY, hkY, -⟩ := className_of_methodNamed hn
  have hinitY : kY.init = .initialized := Cond.initialized_spec (findClass_of_methodNamed hn) hkY h3
  have h : At U g.method c below := by rw [hg]; exact X.here
  have hlocals9 : W9 + (maxL + 11) + (headSpec ws rm).room.locals ≤ R.locals := hlocals
  have happ : (headSpec ws rm).appliesLoose y e.platform (U.calling g mk a) = true :=
    Spec.appliesLoose_calling (g := g) h hdg hn hkY hinitY
      (X.room_calling (g := g) (R' := (headSpec ws rm).room) hsize hmY hcY hframes (by rw [hlY]; omega) h4 h5) h1
  obtain ⟨mid, hmid⟩ := h.above
  have hfr : (U.setTop g).frames = (.java g :: mid) ++ below := by rw [State.frames_setTop' g h.top, hmid]; rfl
  obtain ⟨o, s₂, hsteps, -, hend, hq⟩ := Steps.callFree hM p X.admits X.cas X.clock (acts := []) hfr happ hPc trivial
  have hq' : vx_Q Qc XC mc ms free a (U.calling g mk a) o s₂ := hq
  rw [State.frames_setTop' g h.top] at hend
  obtain ⟨g₀, hg0⟩ := Option.isSome_iff_exists.mp h.top
  obtain ⟨r, hr⟩ := State.topJava?_eq_some.mp hg0
  have hr' : (({ U with heap := s₂.heap, slotsUsed := s₂.slotsUsed } : State).setVm s₂.vm).frames = .java g₀ :: r := hr
  rcases hq' with ⟨hqc, L, hfe, hL⟩ | ⟨q, rfl, E, ce, L, hx, hce, hcv, hcl, hW₂, hsm, hL⟩
  · obtain ⟨⟨v, rfl⟩, hW₂, e2, q2, q3, q4, q5, q6⟩ := id hfe
    have e3 : s₂ = ({ (U.calling g mk a).setFrames s₂.frames with heap := s₂.heap, slotsUsed := s₂.slotsUsed } : State).setVm s₂.vm := by
      have : s₂ = ({ s₂ with vm := (U.calling g mk a).vm } : State).setVm s₂.vm := rfl
      rw [e2] at this
      exact this
    obtain ⟨c₂, i₂, len₂, hc₂, hd₂, hf₂⟩ := hend
    have hW' : U.WarmedH s₂.vm := hW₂
    have hcc : c₂ = c := by
      have h1 : s₂.code? g.method = U.code? g.method := by
        rw [State.code?_eq, State.code?_eq, hW'.alike.method?]
      exact Option.some.inj (hc₂.symm.trans (h1.trans h.code))
    subst hcc
    have hlen : len₂ = len := by rw [hdg] at hd₂; cases hd₂; rfl
    subst hlen
    have hs₂ : s₂ = (({ U with heap := s₂.heap, slotsUsed := s₂.slotsUsed } : State).setVm s₂.vm).setTop { g with pc := g.pc + len₂, stack := v.toList ++ g.stack } := by
      refine e3.trans ?_
      rw [hf₂, State.calling_eq h.top, State.setFrames_setFrames, State.setTop_of_frames _ hr', hr]
      rfl
    have hsame : U.sameButNew ({ U with heap := s₂.heap, slotsUsed := s₂.slotsUsed } : State) L mc ms := by
      refine ⟨?_, q2, q3, q4, q5, q6⟩
      obtain ⟨t, ht, -⟩ := State.frames_cons hr
      show ({ U with heap := s₂.heap, slotsUsed := s₂.slotsUsed } : State) = { U.setFrames U.frames with heap := s₂.heap, slotsUsed := s₂.slotsUsed }
      rw [State.setFrames_self ht]
    subst hg
    refine Or.inl ⟨v, ⟨(({ U with heap := s₂.heap, slotsUsed := s₂.slotsUsed } : State).setVm s₂.vm), Ls ++ L, c0 + mc, s0 + ms⟩,
      ⟨X.admits, X.cas, X.clock, X.frames, X.room, X.hears, X.method, X.code, (X.here.setHeapUsed s₂.heap s₂.slotsUsed).setVm hW'.alike, X.tail, State.WarmedH.trans X.warmed hW', X.limits, X.bytes, X.same.trans (hsame.setVm s.vm)⟩,
      ⟨g, mk, s₂, L, rfl, rfl, hqc, rfl, hL, rfl, rfl⟩, ?_⟩
    show Steps p.tables e below _ ((({ U with heap := s₂.heap, slotsUsed := s₂.slotsUsed } : State).setVm s₂.vm).setTop { g with pc := g.pc + len₂, stack := v.toList ++ g.stack })
    rw [← hs₂]
    exact hsteps
  · obtain ⟨e2, q2, q3, q4, q5, q6⟩ := id hsm
    have e3 : s₂ = ({ (U.calling g mk a).setFrames s₂.frames with heap := s₂.heap, slotsUsed := s₂.slotsUsed } : State).setVm s₂.vm := by
      have : s₂ = ({ s₂ with vm := (U.calling g mk a).vm } : State).setVm s₂.vm := rfl
      rw [e2] at this
      exact this
    have hf₂ : s₂.frames = .throwing q :: .java g :: U.frames.tail := hend
    have hW' : U.WarmedH s₂.vm := hW₂
    have hs₂ : s₂ = ((({ U with heap := s₂.heap, slotsUsed := s₂.slotsUsed } : State).setVm s₂.vm).setTop g).pushFrame (.throwing q) := by
      refine e3.trans ?_
      rw [hf₂, State.calling_eq h.top, State.setFrames_setFrames, State.pushFrame, State.frames_setTop _ hr', State.setTop_of_frames _ hr', State.setFrames_setFrames, hr]
      rfl
    have hsame : U.sameButNew ({ U with heap := s₂.heap, slotsUsed := s₂.slotsUsed } : State) L mc ms := by
      refine ⟨?_, q2, q3, q4, q5, q6⟩
      obtain ⟨t, ht, -⟩ := State.frames_cons hr
      show ({ U with heap := s₂.heap, slotsUsed := s₂.slotsUsed } : State) = { U.setFrames U.frames with heap := s₂.heap, slotsUsed := s₂.slotsUsed }
      rw [State.setFrames_self ht]
    subst hg
    refine Or.inr ⟨q, ⟨(({ U with heap := s₂.heap, slotsUsed := s₂.slotsUsed } : State).setVm s₂.vm), Ls ++ L, c0 + mc, s0 + ms⟩,
      ⟨X.admits, X.cas, X.clock, X.frames, X.room, X.hears, X.method, X.code, (X.here.setHeapUsed s₂.heap s₂.slotsUsed).setVm hW'.alike, X.tail, State.WarmedH.trans X.warmed hW', X.limits, X.bytes, X.same.trans (hsame.setVm s.vm)⟩,
      ⟨g, mk, s₂, L, E, ce, rfl, rfl, hx, hce, hcv, hcl, rfl, hL, rfl, rfl⟩, ?_⟩
    show Steps p.tables e below _ (((({ U with heap := s₂.heap, slotsUsed := s₂.slotsUsed } : State).setVm s₂.vm).setTop g).pushFrame (.throwing q))
    rw [← hs₂]
    exact hsteps
end
variable {p : Program} {l : Launch} {e : Env} {R : Room} {s : State} {m : MethodId} {args : Array Value} {below : List Frame} {meth : Method} {c : Code} {T : State} {H : Heap} {locs : List Loc} {cells slots : Nat}
theorem vx_callVX (X : Stand p l e R s m args below meth c T locs cells slots) (hexec : p.tables.exec = Jvm.exec) {own C : String} {index : Nat} {y : MethodName} {bytes : ByteArray} {maxL : Nat} {ret : Option FieldType} {hh : List (Nat × Nat × Nat × Nat)}
    (hown : s.vm.findClass own = some m.cls) (hlink : (Cond.methodLink own index y).before args s = true) (hinst : (Cond.instanceMethod y).before args s = true) (hsel : (Cond.selects C y y).before args s = true)
    (hcode : (Cond.codeWith y bytes maxL ret hh).before args s = true) (hy : y.cls ≠ "java/lang/invoke/MethodHandle" ∧ y.cls ≠ "java/lang/invoke/VarHandle")
    {W9 : Nat} {Pre : Pt → Array Value → Prop} {Post : Pt → Array Value → Option Value → Pt → Prop} {PostX : Pt → Array Value → Addr → Pt → Prop} (hK : vx_Back l R p e below s args y 3 W9 Pre Post PostX)
    {b : Addr} {cellB : Cell} (hcell : T.heap[b]? = some cellB) (hobj : cellB.vm.isStatics = false) (hcls : s.vm.findClass C = some cellB.cls)
    {g : JFrame} (hg : g.method = m) (hsize : g.locals.size = c.maxLocals) {argsL rest : List Value} (hlen : ∀ sig, parseMethodDescriptor y.desc = some sig → argsL.length = sig.parameters.length)
    (hstack : g.stack = argsL.reverse ++ .ref b :: rest) (hW : 2 * g.monitorRoom + (rest.map fun v => v.category).sum ≤ W9) (hdg : decode c.code g.pc = .ok (.invokevirtual index, 3))
    (hpre : ∀ vm₁, s.WarmedH vm₁ → Pre ⟨T.setVm vm₁, locs, cells, slots⟩ (Value.ref b :: argsL).toArray) :
    (∃ (v : Option Value) (vm₁ : Vm) (B : Pt), s.WarmedH vm₁ ∧ Stand p l e R s m args below meth c B.U B.locs B.cells B.slots ∧ Post ⟨T.setVm vm₁, locs, cells, slots⟩ (Value.ref b :: argsL).toArray v B ∧
      ∀ target, Steps p.tables e below (B.U.setTop { g with pc := g.pc + 3, stack := v.toList ++ rest }) target → Steps p.tables e below (T.setTop g) target) ∨
    (∃ (q : Addr) (vm₁ : Vm) (B : Pt), s.WarmedH vm₁ ∧ Stand p l e R s m args below meth c B.U B.locs B.cells B.slots ∧ PostX ⟨T.setVm vm₁, locs, cells, slots⟩ (Value.ref b :: argsL).toArray q B ∧
      Steps p.tables e below (T.setTop g) ((B.U.setTop { g with stack := rest }).pushFrame (.throwing q))) := by
  obtain ⟨mk, methM, hnamed, hmethM, hstM, habM⟩ := Cond.instanceMethod_spec hinst
  obtain ⟨m8, methM', cM, hn8, hmethM', -, -, -, -, -, -, hsigM⟩ := Cond.codeWith_spec hcode
  cases Option.some.inj (hn8.symm.trans hnamed)
  cases hmethM.symm.trans hmethM'
  obtain ⟨c2, r2, m2, q1, q2, q3, q4, kP, hkP, hkPi⟩ := Cond.selects_spec hsel
  cases hcls.symm.trans q1
  cases (State.methodFound?_of_named hnamed hy).symm.trans q2
  cases hnamed.symm.trans q3
  have hselP : selectMethod e.platform s.vm cellB.cls mk = .method mk := by rw [Launch.admits_selectMethod X.admits]; exact q4
  obtain ⟨vm₁, X₁, hstep₁⟩ := X.invokevirtual hexec hown hlink hnamed hmethM hstM hkP hkPi hy (a := b) (cell := cellB) hcell
    (fun z h => by rw [h] at hobj; cases hobj) hselP hmethM habM hkP hkPi (g := g) hg (argsL := argsL) (rest := rest) (hlen _ hsigM) hstack hdg
  rcases hK m meth c ⟨T.setVm vm₁, locs, cells, slots⟩ { g with stack := rest } (.invokevirtual index) mk (Value.ref b :: argsL).toArray X₁ hg hsize hdg hW (X₁.named hnamed) (hpre vm₁ X₁.warmed) with ⟨v, B, X', hpost, hsteps⟩ | ⟨q, B, X', hpost, hsteps⟩
  · exact Or.inl ⟨v, vm₁, B, X₁.warmed, X', hpost, fun target h => hstep₁ _ fun acts => by rw [doInvoke_state]; exact hsteps.trans h⟩
  · exact Or.inr ⟨q, vm₁, B, X₁.warmed, X', hpost, hstep₁ _ fun acts => by rw [doInvoke_state]; exact hsteps⟩
theorem vx_callSX (X : Stand p l e R s m args below meth c T locs cells slots) (hexec : p.tables.exec = Jvm.exec) {own : String} {index : Nat} {y : MethodName} {bytes : ByteArray} {maxL : Nat} {ret : Option FieldType} {hh : List (Nat × Nat × Nat × Nat)}
    (hown : s.vm.findClass own = some m.cls) (hlink : (Cond.methodLink own index y).before args s = true) (hstat : (Cond.static y).before args s = true) (hinit : (Cond.initialized y.cls).before args s = true)
    (hcode : (Cond.codeWith y bytes maxL ret hh).before args s = true) (hy : y.cls ≠ "java/lang/invoke/MethodHandle" ∧ y.cls ≠ "java/lang/invoke/VarHandle")
    {W9 : Nat} {Pre : Pt → Array Value → Prop} {Post : Pt → Array Value → Option Value → Pt → Prop} {PostX : Pt → Array Value → Addr → Pt → Prop} (hK : vx_Back l R p e below s args y 3 W9 Pre Post PostX)
    {g : JFrame} (hg : g.method = m) (hsize : g.locals.size = c.maxLocals) {argsL rest : List Value} (hlen : ∀ sig, parseMethodDescriptor y.desc = some sig → argsL.length = sig.parameters.length)
    (hstack : g.stack = argsL.reverse ++ rest) (hW : 2 * g.monitorRoom + (rest.map fun v => v.category).sum ≤ W9) (hdg : decode c.code g.pc = .ok (.invokestatic index, 3))
    (hpre : ∀ vm₁, s.WarmedH vm₁ → Pre ⟨T.setVm vm₁, locs, cells, slots⟩ argsL.toArray) :
    (∃ (v : Option Value) (vm₁ : Vm) (B : Pt), s.WarmedH vm₁ ∧ Stand p l e R s m args below meth c B.U B.locs B.cells B.slots ∧ Post ⟨T.setVm vm₁, locs, cells, slots⟩ argsL.toArray v B ∧
      ∀ target, Steps p.tables e below (B.U.setTop { g with pc := g.pc + 3, stack := v.toList ++ rest }) target → Steps p.tables e below (T.setTop g) target) ∨
    (∃ (q : Addr) (vm₁ : Vm) (B : Pt), s.WarmedH vm₁ ∧ Stand p l e R s m args below meth c B.U B.locs B.cells B.slots ∧ PostX ⟨T.setVm vm₁, locs, cells, slots⟩ argsL.toArray q B ∧
      Steps p.tables e below (T.setTop g) ((B.U.setTop { g with stack := rest }).pushFrame (.throwing q))) := by
  obtain ⟨mk, methM, cM, hnamed, hmethM, -, -, -, -, -, -, hsigM⟩ := Cond.codeWith_spec hcode
  have hstatic : methM.isStatic = true := Cond.static_spec hnamed hmethM hstat
  obtain ⟨kP, hkP, -⟩ := className_of_methodNamed hnamed
  have hinitP : kP.init = .initialized := Cond.initialized_spec (findClass_of_methodNamed hnamed) hkP hinit
  obtain ⟨vm₁, X₁, hstep₁⟩ := X.invokestatic hexec hown hlink hnamed hmethM hstatic hkP hinitP hy (g := g) hg (argsL := argsL) (rest := rest) (hlen _ hsigM) hstack hdg
  rcases hK m meth c ⟨T.setVm vm₁, locs, cells, slots⟩ { g with stack := rest } (.invokestatic index) mk argsL.toArray X₁ hg hsize hdg hW (X₁.named hnamed) (hpre vm₁ X₁.warmed) with ⟨v, B, X', hpost, hsteps⟩ | ⟨q, B, X', hpost, hsteps⟩
  · exact Or.inl ⟨v, vm₁, B, X₁.warmed, X', hpost, fun target h => hstep₁ _ fun acts => by rw [doInvoke_state]; exact hsteps.trans h⟩
  · exact Or.inr ⟨q, vm₁, B, X₁.warmed, X', hpost, hstep₁ _ fun acts => by rw [doInvoke_state]; exact hsteps⟩
theorem vx_callVW (X : Stand p l e R s m args below meth c T locs cells slots) (hexec : p.tables.exec = Jvm.exec) {own C : String} {index : Nat} {y : MethodName} {bytes : ByteArray} {maxL : Nat} {ret : Option FieldType} {hh : List (Nat × Nat × Nat × Nat)}
    (hown : s.vm.findClass own = some m.cls) (hlink : (Cond.methodLink own index y).before args s = true) (hinst : (Cond.instanceMethod y).before args s = true) (hsel : (Cond.selects C y y).before args s = true)
    (hcode : (Cond.codeWith y bytes maxL ret hh).before args s = true) (hy : y.cls ≠ "java/lang/invoke/MethodHandle" ∧ y.cls ≠ "java/lang/invoke/VarHandle")
    {W9 : Nat} {Pre : Pt → Array Value → Prop} {Post : Pt → Array Value → Option Value → Pt → Prop} (hK : Back l R p e below s args y 3 W9 Pre Post)
    {b : Addr} {cellB : Cell} (hcell : T.heap[b]? = some cellB) (hobj : cellB.vm.isStatics = false) (hcls : s.vm.findClass C = some cellB.cls)
    {g : JFrame} (hg : g.method = m) (hsize : g.locals.size = c.maxLocals) {argsL rest : List Value} (hlen : ∀ sig, parseMethodDescriptor y.desc = some sig → argsL.length = sig.parameters.length)
    (hstack : g.stack = argsL.reverse ++ .ref b :: rest) (hW : 2 * g.monitorRoom + (rest.map fun v => v.category).sum ≤ W9) (hdg : decode c.code g.pc = .ok (.invokevirtual index, 3))
    (hpre : ∀ vm₁, s.WarmedH vm₁ → Pre ⟨T.setVm vm₁, locs, cells, slots⟩ (Value.ref b :: argsL).toArray) :
    ∃ (v : Option Value) (vm₁ : Vm) (B : Pt), s.WarmedH vm₁ ∧ Stand p l e R s m args below meth c B.U B.locs B.cells B.slots ∧ Post ⟨T.setVm vm₁, locs, cells, slots⟩ (Value.ref b :: argsL).toArray v B ∧
      ∀ target, Steps p.tables e below (B.U.setTop { g with pc := g.pc + 3, stack := v.toList ++ rest }) target → Steps p.tables e below (T.setTop g) target := by
  obtain ⟨mk, methM, hnamed, hmethM, hstM, habM⟩ := Cond.instanceMethod_spec hinst
  obtain ⟨m8, methM', cM, hn8, hmethM', -, -, -, -, -, -, hsigM⟩ := Cond.codeWith_spec hcode
  cases Option.some.inj (hn8.symm.trans hnamed)
  cases hmethM.symm.trans hmethM'
  obtain ⟨c2, r2, m2, q1, q2, q3, q4, kP, hkP, hkPi⟩ := Cond.selects_spec hsel
  cases hcls.symm.trans q1
  cases (State.methodFound?_of_named hnamed hy).symm.trans q2
  cases hnamed.symm.trans q3
  have hselP : selectMethod e.platform s.vm cellB.cls mk = .method mk := by rw [Launch.admits_selectMethod X.admits]; exact q4
  obtain ⟨vm₁, X₁, hstep₁⟩ := X.invokevirtual hexec hown hlink hnamed hmethM hstM hkP hkPi hy (a := b) (cell := cellB) hcell
    (fun z h => by rw [h] at hobj; cases hobj) hselP hmethM habM hkP hkPi (g := g) hg (argsL := argsL) (rest := rest) (hlen _ hsigM) hstack hdg
  obtain ⟨v, B, X', hpost, hsteps⟩ := hK m meth c ⟨T.setVm vm₁, locs, cells, slots⟩ { g with stack := rest } (.invokevirtual index) mk (Value.ref b :: argsL).toArray X₁ hg hsize hdg hW (X₁.named hnamed) (hpre vm₁ X₁.warmed)
  exact ⟨v, vm₁, B, X₁.warmed, X', hpost, fun target h => hstep₁ _ fun acts => by rw [doInvoke_state]; exact hsteps.trans h⟩
abbrev vx_CVW (R : Room) (s : State) (args : Array Value) (own C : String) (index : Nat) (y : MethodName) (bytes : ByteArray) (maxL : Nat) (ret : Option FieldType) (hh : List (Nat × Nat × Nat × Nat)) (ws : List Cond) (rm : Room) (mc ms n : Nat) : Prop :=
  (rm.cells = mc ∧ rm.slots = ms ∧ rm.frames + 1 ≤ R.frames ∧ 8 + (maxL + 11) + rm.locals ≤ R.locals ∧ (∀ w ∈ ws, ∀ (a' : Array Value) (U : State), s.WarmedH U.vm → w.before a' U = true) ∧ Cond.codeWith y bytes maxL ret hh ∈ ws) ∧
  (Cond.codeWith y bytes maxL ret hh).before args s = true ∧ (Cond.initialized y.cls).before args s = true ∧ (y.cls ≠ "java/lang/invoke/MethodHandle" ∧ y.cls ≠ "java/lang/invoke/VarHandle") ∧
  (∀ sig, parseMethodDescriptor y.desc = some sig → n = sig.parameters.length) ∧ (Cond.methodLink own index y).before args s = true ∧ (Cond.instanceMethod y).before args s = true ∧ (Cond.selects C y y).before args s = true
theorem vx_cwVW {own C : String} {index maxL mc ms : Nat} {y : MethodName} {bytes : ByteArray} {ret : Option FieldType} {hh : List (Nat × Nat × Nat × Nat)} {Ts ws ws' : List Cond} {rm : Room} (n : Nat) (ht : ∀ w ∈ Ts, w.before args s = true) (hT : GoodIn Ts (wsV own index C y ws)) (hw : ws = Cond.codeWith y bytes maxL ret hh :: ws') (hrc : rm.cells = mc) (hrs : rm.slots = ms)
    (hd : y.cls = C ∧ y.cls ≠ "java/lang/invoke/MethodHandle" ∧ y.cls ≠ "java/lang/invoke/VarHandle" ∧ (parseMethodDescriptor y.desc).map (fun d => d.parameters.length) = some n) (hR : rm.frames + 1 ≤ R.frames ∧ 8 + (maxL + 11) + rm.locals ≤ R.locals) :
    vx_CVW R s args own C index y bytes maxL ret hh ws rm mc ms n := by
  obtain ⟨hC, hd⟩ := hd
  subst hC
  have ok : ∀ w ∈ wsV own index y.cls y ws, w.before args s = true := fun w h => ht w (hT w h).1
  have hG : GoodIn Ts ws := fun w h => hT w (by unfold wsV; exact List.mem_append_right _ h)
  have hc : Cond.codeWith y bytes maxL ret hh ∈ ws := by rw [hw]; exact List.mem_cons_self
  refine ⟨⟨hrc, hrs, hR.1, hR.2, pay_in ht hG, hc⟩, ht _ (hG _ hc).1, ok _ (by simp [wsV]), ⟨hd.1, hd.2.1⟩, fun sig h => ?_, ok _ (by simp [wsV]), ok _ (by simp [wsV]), ok _ (by simp [wsV])⟩
  have h2 := hd.2.2
  rw [h] at h2
  exact (Option.some.inj h2).symm
theorem vx_runVW {y : MethodName} {bytes cc : ByteArray} {maxL nL mc ms n index : Nat} {ret : Option FieldType} {hh : List (Nat × Nat × Nat × Nat)} {ws : List Cond} {rm : Room} {Pc : Array Value → State → Prop} {Qc : Array Value → State → Outcome → State → Prop} {free : Addr → Prop} {Ts : List Cond} {own C : String} {b : Addr} {As rest : List Value} {g : JFrame}
    (S : CallFix p m c cc nL s args Ts own) (hM : Met l y ws rm Pc Qc mc ms free) (cw : vx_CVW R s args own C index y bytes maxL ret hh ws rm mc ms n) (hp : PreV s H C b Pc As)
    (hg : g.method = m) (hn : As.length = n) (hsize : g.locals.size = nL) (hstack : g.stack = As.reverse ++ .ref b :: rest) (hW : 2 * g.monitorRoom + (rest.map fun v => v.category).sum ≤ 8) (hdg : decode cc g.pc = .ok (.invokevirtual index, 3)) (hf : cells + mc ≤ R.cells ∧ slots + ms ≤ R.slots) :
    va_Run p l e R s m args below meth c H locs cells slots mc ms g rest (Qc (Value.ref b :: As).toArray) free := by
  obtain ⟨⟨hrc, hrs, hfr, hlo, hws, hcw⟩, hcode, hini, hy, hlen, hl, hin, hse⟩ := cw
  have hK : Back l R p e below s args y 3 8 (PreOf R mc ms Pc) (PostOf Qc mc ms free) := va_backW (hh := hh) (bytes := bytes) (maxL := maxL) (ret := ret) hM hp.1 hrc hrs hfr hlo hws hcw (fun a' U hW => word_at hW (Or.inl (by first | rfl | simp [Cond.onTables, Cond.keeps, Cond.steady])) hini)
  obtain ⟨hx, hb, hml, ho, -⟩ := S
  obtain ⟨-, ⟨cellB, hcB, hoB, hclB⟩, hPc⟩ := hp
  intro T hT X
  obtain ⟨v, vm₁, ⟨U', l2, c2, s2⟩, hW₁, X', ⟨g', mk, t, L, e1, e2, hq, h1, hL, h2, h3⟩, st⟩ := vx_callVW X hx (C := C) (hh := hh) (bytes := bytes) (maxL := maxL) (ret := ret) ho hl hin hse hcode hy hK (by rw [hT]; exact hcB) hoB hclB hg (hsize.trans hml.symm) (argsL := As) (rest := rest) (fun sig h => hn.trans (hlen sig h)) hstack hW (by rw [hb]; exact hdg)
    (fun vm₁ hW₁ => ⟨hf.1, hf.2, hPc (T.setVm vm₁) hT hW₁⟩)
  dsimp only [Pt.U, Pt.locs, Pt.cells, Pt.slots] at X' e1 e2 h1 h2 h3 st
  subst h1; subst h2; subst h3
  exact ⟨v, (T.setVm vm₁).calling g' mk (Value.ref b :: As).toArray, t, U', L, hT, X', hL, e1, e2, hq, st⟩
section
variable {y : MethodName} {bytes cc : ByteArray} {maxL nL mc ms n index : Nat} {ret : Option FieldType} {ws : List Cond} {rm : Room} {Pc : Array Value → State → Prop} {Qc : Array Value → State → Outcome → State → Prop} {XC : String → State → State → Prop} {free : Addr → Prop} {Ts : List Cond} {own C : String} {b : Addr} {As rest : List Value} {g : JFrame}
theorem vx_runVX {hh : List (Nat × Nat × Nat × Nat)} (S : CallFix p m c cc nL s args Ts own) (hM : vx_Met l y ws rm Pc Qc XC mc ms free) (cw : vx_CVW R s args own C index y bytes maxL ret hh ws rm mc ms n) (hp : PreV s H C b Pc As)
    (hg : g.method = m) (hn : As.length = n) (hsize : g.locals.size = nL) (hstack : g.stack = As.reverse ++ .ref b :: rest) (hW : 2 * g.monitorRoom + (rest.map fun v => v.category).sum ≤ 8) (hdg : decode cc g.pc = .ok (.invokevirtual index, 3)) (hf : cells + mc ≤ R.cells ∧ slots + ms ≤ R.slots) :
    vx_Run p l e R s m args below meth c H locs cells slots mc ms g rest (Qc (Value.ref b :: As).toArray) XC free := by
  obtain ⟨⟨hrc, hrs, hfr, hlo, hws, hcw⟩, hcode, hini, hy, hlen, hl, hin, hse⟩ := cw
  have hK : vx_Back l R p e below s args y 3 8 (PreOf R mc ms Pc) (PostOf Qc mc ms free) (vx_Post XC mc ms free) := vx_backW (hh := hh) (bytes := bytes) (maxL := maxL) (ret := ret) hM hp.1 hrc hrs hfr hlo hws hcw (fun a' U hW => word_at hW (Or.inl (by first | rfl | simp [Cond.onTables, Cond.keeps, Cond.steady])) hini)
  obtain ⟨hx, hb, hml, ho, -⟩ := S
  obtain ⟨-, ⟨cellB, hcB, hoB, hclB⟩, hPc⟩ := hp
  intro T hT X
  rcases vx_callVX X hx (C := C) (hh := hh) (bytes := bytes) (maxL := maxL) (ret := ret) ho hl hin hse hcode hy hK (by rw [hT]; exact hcB) hoB hclB hg (hsize.trans hml.symm) (argsL := As) (rest := rest) (fun sig h => hn.trans (hlen sig h)) hstack hW (by rw [hb]; exact hdg)
    (fun vm₁ hW₁ => ⟨hf.1, hf.2, hPc (T.setVm vm₁) hT hW₁⟩) with ⟨v, vm₁, ⟨U', l2, c2, s2⟩, hW₁, X', ⟨g', mk, t, L, e1, e2, hq, h1, hL, h2, h3⟩, st⟩ | ⟨q, vm₁, ⟨U', l2, c2, s2⟩, hW₁, X', ⟨g', mk, t, L, E, ce, e1, e2, hq, hce, hcv, hcl, h1, hL, h2, h3⟩, st⟩
  · dsimp only [Pt.U, Pt.locs, Pt.cells, Pt.slots] at X' e1 e2 h1 h2 h3 st
    subst h1; subst h2; subst h3
    exact Or.inl ⟨v, (T.setVm vm₁).calling g' mk (Value.ref b :: As).toArray, t, U', L, hT, X', hL, e1, e2, hq, st⟩
  · dsimp only [Pt.U, Pt.locs, Pt.cells, Pt.slots] at X' e1 e2 h1 h2 h3 st hcl
    subst h1; subst h2; subst h3
    exact Or.inr ⟨q, (T.setVm vm₁).calling g' mk (Value.ref b :: As).toArray, t, U', L, E, ce, hT, X', hL, e1, e2, hq, hce, hcv, vx_cls hW₁ hcl, st⟩
theorem vx_runSX {hh : List (Nat × Nat × Nat × Nat)} (S : CallFix p m c cc nL s args Ts own) (hM : vx_Met l y ws rm Pc Qc XC mc ms free) (cw : vx_CSW R s args own index y bytes maxL ret hh ws rm mc ms n) (hp : PreS s H Pc As)
    (hg : g.method = m) (hn : As.length = n) (hsize : g.locals.size = nL) (hstack : g.stack = As.reverse ++ rest) (hW : 2 * g.monitorRoom + (rest.map fun v => v.category).sum ≤ 8) (hdg : decode cc g.pc = .ok (.invokestatic index, 3)) (hf : cells + mc ≤ R.cells ∧ slots + ms ≤ R.slots) :
    vx_Run p l e R s m args below meth c H locs cells slots mc ms g rest (Qc As.toArray) XC free := by
  obtain ⟨⟨hrc, hrs, hfr, hlo, hws, hcw⟩, hcode, hini, hy, hlen, hl, hstt⟩ := cw
  have hK : vx_Back l R p e below s args y 3 8 (PreOf R mc ms Pc) (PostOf Qc mc ms free) (vx_Post XC mc ms free) := vx_backW (hh := hh) (bytes := bytes) (maxL := maxL) (ret := ret) hM hp.1 hrc hrs hfr hlo hws hcw (fun a' U hW => word_at hW (Or.inl (by first | rfl | simp [Cond.onTables, Cond.keeps, Cond.steady])) hini)
  obtain ⟨hx, hb, hml, ho, -⟩ := S
  intro T hT X
  rcases vx_callSX X hx (hh := hh) (bytes := bytes) (maxL := maxL) (ret := ret) ho hl hstt hini hcode hy hK hg (hsize.trans hml.symm) (argsL := As) (rest := rest) (fun sig h => hn.trans (hlen sig h)) hstack hW (by rw [hb]; exact hdg)
    (fun vm₁ hW₁ => ⟨hf.1, hf.2, hp.2 (T.setVm vm₁) hT hW₁⟩) with ⟨v, vm₁, ⟨U', l2, c2, s2⟩, hW₁, X', ⟨g', mk, t, L, e1, e2, hq, h1, hL, h2, h3⟩, st⟩ | ⟨q, vm₁, ⟨U', l2, c2, s2⟩, hW₁, X', ⟨g', mk, t, L, E, ce, e1, e2, hq, hce, hcv, hcl, h1, hL, h2, h3⟩, st⟩
  · dsimp only [Pt.U, Pt.locs, Pt.cells, Pt.slots] at X' e1 e2 h1 h2 h3 st
    subst h1; subst h2; subst h3
    exact Or.inl ⟨v, (T.setVm vm₁).calling g' mk As.toArray, t, U', L, hT, X', hL, e1, e2, hq, st⟩
  · dsimp only [Pt.U, Pt.locs, Pt.cells, Pt.slots] at X' e1 e2 h1 h2 h3 st hcl
    subst h1; subst h2; subst h3
    exact Or.inr ⟨q, (T.setVm vm₁).calling g' mk As.toArray, t, U', L, E, ce, hT, X', hL, e1, e2, hq, hce, hcv, vx_cls hW₁ hcl, st⟩
end
end VXH
theorem vx_ofWH {l : Launch} {y : MethodName} {ws ws' : List Cond} {rm : Room} {Pc : Array Value → State → Prop} {Qc : Array Value → State → Outcome → State → Prop} {XC : String → State → State → Prop} {mc ms : Nat} {free : Addr → Prop} {cc : ByteArray} {maxL : Nat} {ret : Option FieldType} {hh : List (Nat × Nat × Nat × Nat)}
    (hy : plainName y.cls = true) (hw : ws = Cond.codeWith y cc maxL ret hh :: ws')
    (body : ∀ p e s m args below meth c s₁, BodyLoose p l y (headSpec ws rm) cc maxL ret e s m args below meth c s₁ → c.maxLocals = maxL → Pc args s →
      W p l e (headSpec ws rm).room s m args below meth c s.heap [] 0 0 (vx_MQ below Qc XC args s mc ms free) (entryFrame m args maxL)) : vx_Met l y ws rm Pc Qc XC mc ms free := by
  refine MetFree.of_bodyS (code := cc) (maxLocals := maxL) (ret := ret) hy ?_ ?_
  · intro args s m h hn
    obtain ⟨m9, meth, c, hn9, h1, h2, h3, h4, -, h5, h6, -⟩ := Cond.codeWith_spec (atoms_spec (ws := ws) h _ (by rw [hw]; exact List.mem_cons_self))
    cases hn.symm.trans hn9
    exact ⟨meth, c, h1, h2, h3, h4, h5, h6⟩
  · intro p e s m args below meth c s₁ B hml hP _
    have hh0 : s₁.heap = s.heap := by rw [B.state]; rfl
    obtain ⟨t, a1, o, b1, b2, b3⟩ := body p e s m args below meth c s₁ B hml hP s₁ hh0 (Stand.of_body B)
    exact ⟨t, o, a1, b1, b2, b3⟩
/-! ===== END ===== -/
end
section
/-! ===== BEGIN printed: names, fields, word lists, decode rows ===== -/
def RX0 : String := "FeatureStore$Row"
def TX0 : u_T := fun k => match k with
  | 0 => ("FeatureStore$Row", "number", "I", true)
  | 1 => ("FeatureStore$Row", "feature", "I", true)
  | 2 => ("FeatureStore$Row", "entity", "I", true)
  | 3 => ("FeatureStore$Row", "event", "I", true)
  | 4 => ("FeatureStore$Row", "arrival", "I", true)
  | 5 => ("FeatureStore$Row", "value", "I", true)
  | _ => ("FeatureStore$Row", "older", "LFeatureStore$Row;", false)
def tyX0 : Nat → FieldType := fun k => match k with
  | 0 => .int
  | 1 => .int
  | 2 => .int
  | 3 => .int
  | 4 => .int
  | 5 => .int
  | _ => .object "FeatureStore$Row"
abbrev wsX00 : List Cond := u_ws RX0 TX0 7
theorem nmX0 : ∀ a, a < 7 → ∀ b, b < 7 → a ≠ b → (TX0 a).2.1 ≠ (TX0 b).2.1 := by decide +kernel
theorem tyX0_ok : ∀ k, k < 7 → parseFieldDescriptor (TX0 k).2.2.1 = some (tyX0 k) := by decide +kernel
abbrev cX0_init : ByteArray := prog_2_method_1_code
def yX0_init : MethodName := ⟨RX0, "<init>", "(IIIIII)V"⟩
def RX1 : String := "FeatureStore$Serving"
def TX1 : u_T := fun k => match k with
  | 0 => ("FeatureStore$Serving", "feature", "I", true)
  | 1 => ("FeatureStore$Serving", "entity", "I", true)
  | 2 => ("FeatureStore$Serving", "time", "I", true)
  | _ => ("FeatureStore$Serving", "row", "I", true)
def tyX1 : Nat → FieldType := fun k => match k with
  | 0 => .int
  | 1 => .int
  | 2 => .int
  | _ => .int
abbrev wsX10 : List Cond := u_ws RX1 TX1 4
theorem nmX1 : ∀ a, a < 4 → ∀ b, b < 4 → a ≠ b → (TX1 a).2.1 ≠ (TX1 b).2.1 := by decide +kernel
theorem tyX1_ok : ∀ k, k < 4 → parseFieldDescriptor (TX1 k).2.2.1 = some (tyX1 k) := by decide +kernel
abbrev cX1_init : ByteArray := prog_3_method_1_code
def yX1_init : MethodName := ⟨RX1, "<init>", "(IIII)V"⟩
def RX2 : String := "FeatureStore"
def TX2 : u_T := fun k => match k with
  | 0 => ("FeatureStore", "now", "I", false)
  | 1 => ("FeatureStore", "lifetimes", "[I", true)
  | 2 => ("FeatureStore", "rows", "[LFeatureStore$Row;", true)
  | 3 => ("FeatureStore", "rowCount", "I", false)
  | 4 => ("FeatureStore", "latest", "[LFeatureStore$Row;", true)
  | 5 => ("FeatureStore", "onlineCopy", "[LFeatureStore$Row;", true)
  | 6 => ("FeatureStore", "taken", "I", false)
  | 7 => ("FeatureStore", "servings", "[LFeatureStore$Serving;", true)
  | _ => ("FeatureStore", "servingCount", "I", false)
def tyX2 : Nat → FieldType := fun k => match k with
  | 0 => .int
  | 1 => .array .int
  | 2 => .array (.object "FeatureStore$Row")
  | 3 => .int
  | 4 => .array (.object "FeatureStore$Row")
  | 5 => .array (.object "FeatureStore$Row")
  | 6 => .int
  | 7 => .array (.object "FeatureStore$Serving")
  | _ => .int
abbrev wsX20 : List Cond := u_ws RX2 TX2 9
theorem nmX2 : ∀ a, a < 9 → ∀ b, b < 9 → a ≠ b → (TX2 a).2.1 ≠ (TX2 b).2.1 := by decide +kernel
theorem tyX2_ok : ∀ k, k < 9 → parseFieldDescriptor (TX2 k).2.2.1 = some (tyX2 k) := by decide +kernel
abbrev cX2_init : ByteArray := prog_1_method_1_code
def yX2_init : MethodName := ⟨RX2, "<init>", "()V"⟩
abbrev cX2_arrive : ByteArray := prog_1_method_2_code
def yX2_arrive : MethodName := ⟨RX2, "arrive", "(IIII)I"⟩
abbrev cX2_pass : ByteArray := prog_1_method_3_code
def yX2_pass : MethodName := ⟨RX2, "pass", "(I)I"⟩
abbrev cX2_setLifetime : ByteArray := prog_1_method_4_code
def yX2_setLifetime : MethodName := ⟨RX2, "setLifetime", "(II)I"⟩
abbrev cX2_now : ByteArray := prog_1_method_5_code
def yX2_now : MethodName := ⟨RX2, "now", "()I"⟩
abbrev cX2_rows : ByteArray := prog_1_method_6_code
def yX2_rows : MethodName := ⟨RX2, "rows", "()I"⟩
abbrev cX2_value : ByteArray := prog_1_method_7_code
def yX2_value : MethodName := ⟨RX2, "value", "(I)I"⟩
abbrev cX2_late : ByteArray := prog_1_method_8_code
def yX2_late : MethodName := ⟨RX2, "late", "(I)I"⟩
abbrev cX2_join : ByteArray := prog_1_method_9_code
def yX2_join : MethodName := ⟨RX2, "join", "(IIII)I"⟩
abbrev cX2_window : ByteArray := prog_1_method_10_code
def yX2_window : MethodName := ⟨RX2, "window", "(IIII)I"⟩
abbrev cX2_greatestTile : ByteArray := prog_1_method_11_code
def yX2_greatestTile : MethodName := ⟨RX2, "greatestTile", "(III)I"⟩
abbrev cX2_tiles : ByteArray := prog_1_method_12_code
def yX2_tiles : MethodName := ⟨RX2, "tiles", "(III)I"⟩
abbrev cX2_revised : ByteArray := prog_1_method_13_code
def yX2_revised : MethodName := ⟨RX2, "revised", "(III)I"⟩
abbrev cX2_take : ByteArray := prog_1_method_14_code
def yX2_take : MethodName := ⟨RX2, "take", "(I)I"⟩
abbrev cX2_lag : ByteArray := prog_1_method_15_code
def yX2_lag : MethodName := ⟨RX2, "lag", "()I"⟩
abbrev cX2_online : ByteArray := prog_1_method_16_code
def yX2_online : MethodName := ⟨RX2, "online", "(II)I"⟩
abbrev cX2_skew : ByteArray := prog_1_method_17_code
def yX2_skew : MethodName := ⟨RX2, "skew", "()I"⟩
abbrev cX2_serve : ByteArray := prog_1_method_18_code
def yX2_serve : MethodName := ⟨RX2, "serve", "(II)I"⟩
abbrev cX2_servings : ByteArray := prog_1_method_19_code
def yX2_servings : MethodName := ⟨RX2, "servings", "()I"⟩
abbrev cX2_served : ByteArray := prog_1_method_20_code
def yX2_served : MethodName := ⟨RX2, "served", "(I)I"⟩
abbrev cX2_isSound : ByteArray := prog_1_method_21_code
def yX2_isSound : MethodName := ⟨RX2, "isSound", "(I)Z"⟩
abbrev cX2_unsound : ByteArray := prog_1_method_22_code
def yX2_unsound : MethodName := ⟨RX2, "unsound", "()I"⟩
abbrev cX2_requireRange : ByteArray := prog_1_method_23_code
def yX2_requireRange : MethodName := ⟨RX2, "requireRange", "(III)V"⟩
abbrev cX2_requirePair : ByteArray := prog_1_method_24_code
def yX2_requirePair : MethodName := ⟨RX2, "requirePair", "(II)V"⟩
abbrev cX2_requireRow : ByteArray := prog_1_method_25_code
def yX2_requireRow : MethodName := ⟨RX2, "requireRow", "(I)LFeatureStore$Row;"⟩
abbrev cX2_requireServing : ByteArray := prog_1_method_26_code
def yX2_requireServing : MethodName := ⟨RX2, "requireServing", "(I)LFeatureStore$Serving;"⟩
abbrev cX2_rowOrNull : ByteArray := prog_1_method_27_code
def yX2_rowOrNull : MethodName := ⟨RX2, "rowOrNull", "(I)LFeatureStore$Row;"⟩
abbrev cX2_placeOf : ByteArray := prog_1_method_28_code
def yX2_placeOf : MethodName := ⟨RX2, "placeOf", "(II)I"⟩
abbrev cX2_putInChain : ByteArray := prog_1_method_29_code
def yX2_putInChain : MethodName := ⟨RX2, "putInChain", "(LFeatureStore$Row;)V"⟩
abbrev cX2_find : ByteArray := prog_1_method_30_code
def yX2_find : MethodName := ⟨RX2, "find", "(IIII)I"⟩
abbrev cX2_tell : ByteArray := prog_1_method_31_code
def yX2_tell : MethodName := ⟨RX2, "tell", "(II)I"⟩
abbrev cX2_numberUnlessExpired : ByteArray := prog_1_method_32_code
def yX2_numberUnlessExpired : MethodName := ⟨RX2, "numberUnlessExpired", "(LFeatureStore$Row;I)I"⟩
abbrev cX2_takeIn : ByteArray := prog_1_method_33_code
def yX2_takeIn : MethodName := ⟨RX2, "takeIn", "(LFeatureStore$Row;)V"⟩
abbrev cX2_multiplesBelow : ByteArray := prog_1_method_34_code
def yX2_multiplesBelow : MethodName := ⟨RX2, "multiplesBelow", "(II)I"⟩
def RX3 : String := "FeatureStoreModel"
def TX3 : u_T := fun k => match k with
  | _ => ("", "", "", false)
def tyX3 : Nat → FieldType := fun k => match k with
  | _ => .int
abbrev wsX30 : List Cond := u_ws RX3 TX3 0
theorem nmX3 : ∀ a, a < 0 → ∀ b, b < 0 → a ≠ b → (TX3 a).2.1 ≠ (TX3 b).2.1 := by decide +kernel
theorem tyX3_ok : ∀ k, k < 0 → parseFieldDescriptor (TX3 k).2.2.1 = some (tyX3 k) := by decide +kernel
def RJ9 : String := "java/lang/Math"
def TJ9 : u_T := fun k => match k with
  | _ => ("", "", "", false)
def tyJ9 : Nat → FieldType := fun k => match k with
  | _ => .int
abbrev wsJ90 : List Cond := u_ws RJ9 TJ9 0
theorem nmJ9 : ∀ a, a < 0 → ∀ b, b < 0 → a ≠ b → (TJ9 a).2.1 ≠ (TJ9 b).2.1 := by decide +kernel
theorem tyJ9_ok : ∀ k, k < 0 → parseFieldDescriptor (TJ9 k).2.2.1 = some (tyJ9 k) := by decide +kernel
abbrev cJ9_max_7cf53 : ByteArray := prog_10_method_65_code
def yJ9_max_7cf53 : MethodName := ⟨RJ9, "max", "(II)I"⟩
abbrev cJ9_min_7cf53 : ByteArray := prog_10_method_69_code
def yJ9_min_7cf53 : MethodName := ⟨RJ9, "min", "(II)I"⟩
def RJ0 : String := "java/lang/String"
def TJ0 : u_T := fun k => match k with
  | _ => ("", "", "", false)
def tyJ0 : Nat → FieldType := fun k => match k with
  | _ => .int
abbrev wsJ00 : List Cond := u_ws RJ0 TJ0 0
theorem nmJ0 : ∀ a, a < 0 → ∀ b, b < 0 → a ≠ b → (TJ0 a).2.1 ≠ (TJ0 b).2.1 := by decide +kernel
theorem tyJ0_ok : ∀ k, k < 0 → parseFieldDescriptor (TJ0 k).2.2.1 = some (tyJ0 k) := by decide +kernel
def RL : String := "FeatureStoreLaw"
abbrev cL_cell : ByteArray := method_2_code
def yL_cell : MethodName := ⟨RL, "cell", "([II)I"⟩
abbrev cL_low : ByteArray := method_3_code
def yL_low : MethodName := ⟨RL, "low", "(II)I"⟩
abbrev cL_arrive : ByteArray := method_4_code
def yL_arrive : MethodName := ⟨RL, "arrive", "(LFeatureStore;IIII)I"⟩
abbrev cL_pass : ByteArray := method_5_code
def yL_pass : MethodName := ⟨RL, "pass", "(LFeatureStore;I)I"⟩
abbrev cL_setLifetime : ByteArray := method_6_code
def yL_setLifetime : MethodName := ⟨RL, "setLifetime", "(LFeatureStore;II)I"⟩
abbrev cL_value : ByteArray := method_7_code
def yL_value : MethodName := ⟨RL, "value", "(LFeatureStore;I)I"⟩
abbrev cL_late : ByteArray := method_8_code
def yL_late : MethodName := ⟨RL, "late", "(LFeatureStore;I)I"⟩
abbrev cL_join : ByteArray := method_9_code
def yL_join : MethodName := ⟨RL, "join", "(LFeatureStore;IIII)I"⟩
abbrev cL_window : ByteArray := method_10_code
def yL_window : MethodName := ⟨RL, "window", "(LFeatureStore;IIII)I"⟩
abbrev cL_greatestTile : ByteArray := method_11_code
def yL_greatestTile : MethodName := ⟨RL, "greatestTile", "(LFeatureStore;III)I"⟩
abbrev cL_tiles : ByteArray := method_12_code
def yL_tiles : MethodName := ⟨RL, "tiles", "(LFeatureStore;III)I"⟩
abbrev cL_revised : ByteArray := method_13_code
def yL_revised : MethodName := ⟨RL, "revised", "(LFeatureStore;III)I"⟩
abbrev cL_take : ByteArray := method_14_code
def yL_take : MethodName := ⟨RL, "take", "(LFeatureStore;I)I"⟩
abbrev cL_online : ByteArray := method_15_code
def yL_online : MethodName := ⟨RL, "online", "(LFeatureStore;II)I"⟩
abbrev cL_serve : ByteArray := method_16_code
def yL_serve : MethodName := ⟨RL, "serve", "(LFeatureStore;II)I"⟩
abbrev cL_served : ByteArray := method_17_code
def yL_served : MethodName := ⟨RL, "served", "(LFeatureStore;I)I"⟩
abbrev cL_isSound : ByteArray := method_18_code
def yL_isSound : MethodName := ⟨RL, "isSound", "(LFeatureStore;I)I"⟩
abbrev cL_find : ByteArray := method_19_code
def yL_find : MethodName := ⟨RL, "find", "([I[I[I[IIIII)I"⟩
abbrev cL_copied : ByteArray := method_20_code
def yL_copied : MethodName := ⟨RL, "copied", "([I[I[I[I[II)I"⟩
abbrev cL_keeps : ByteArray := method_21_code
def yL_keeps : MethodName := ⟨RL, "keeps", "(LFeatureStore;III[I[I[I[I[I[I[I[I)Z"⟩
abbrev cL_areTiles : ByteArray := method_22_code
def yL_areTiles : MethodName := ⟨RL, "areTiles", "(LFeatureStore;IIIII[I[I[I[I)Z"⟩
abbrev cL_isTold : ByteArray := method_23_code
def yL_isTold : MethodName := ⟨RL, "isTold", "(LFeatureStore;II[I[I[I[I[I[I[I[I)Z"⟩
abbrev cL_law : ByteArray := code
def yL_law : MethodName := ⟨RL, "law", "([I)Z"⟩
def wsX0_init : List Cond := .code yX0_init cX0_init 7 none :: ([.methodLink RX0 1 objectInit, .instanceMethod objectInit, .code objectInit ⟨#[0xb1]⟩ 1 none, .fieldLink RX0 7 "FeatureStore$Row" "number" "I", .fieldLink RX0 13 "FeatureStore$Row" "feature" "I", .fieldLink RX0 16 "FeatureStore$Row" "entity" "I", .fieldLink RX0 19 "FeatureStore$Row" "event" "I", .fieldLink RX0 22 "FeatureStore$Row" "arrival" "I", .fieldLink RX0 25 "FeatureStore$Row" "value" "I"] ++ wsX00)
def wsX1_init : List Cond := .code yX1_init cX1_init 5 none :: ([.methodLink RX1 1 objectInit, .instanceMethod objectInit, .code objectInit ⟨#[0xb1]⟩ 1 none, .fieldLink RX1 7 "FeatureStore$Serving" "feature" "I", .fieldLink RX1 13 "FeatureStore$Serving" "entity" "I", .fieldLink RX1 16 "FeatureStore$Serving" "time" "I", .fieldLink RX1 19 "FeatureStore$Serving" "row" "I"] ++ wsX10)
def wsX2_init : List Cond := .code yX2_init cX2_init 2 none :: ([.methodLink RX2 1 objectInit, .instanceMethod objectInit, .code objectInit ⟨#[0xb1]⟩ 1 none, .arrayClass .int, .fieldLink RX2 9 "FeatureStore" "lifetimes" "[I", .classLink RX2 13 RX0, .fieldLink RX2 15 "FeatureStore" "rows" "[LFeatureStore$Row;", .fieldLink RX2 19 "FeatureStore" "latest" "[LFeatureStore$Row;", .fieldLink RX2 22 "FeatureStore" "onlineCopy" "[LFeatureStore$Row;", .classLink RX2 25 RX1, .fieldLink RX2 27 "FeatureStore" "servings" "[LFeatureStore$Serving;"] ++ wsX20)
def wsX2_requireRange : List Cond := .code yX2_requireRange cX2_requireRange 3 none :: ([.classLink RX2 142 "java/lang/IllegalArgumentException", .initialized "java/lang/IllegalArgumentException"] ++ (vx_atS RX2 146 "java/lang/IllegalArgumentException" ["java/lang/RuntimeException", "java/lang/Exception"]).filter goodWord)
def wsX2_requirePair : List Cond := .code yX2_requirePair cX2_requirePair 2 none :: ([.methodLink RX2 39 yX2_requireRange, .static yX2_requireRange, .initialized RX2, .code yX2_requireRange cX2_requireRange 3 none, .classLink RX2 142 "java/lang/IllegalArgumentException", .initialized "java/lang/IllegalArgumentException"] ++ (vx_atS RX2 146 "java/lang/IllegalArgumentException" ["java/lang/RuntimeException", "java/lang/Exception"]).filter goodWord)
def wsX2_placeOf : List Cond := .code yX2_placeOf cX2_placeOf 2 (some .int) :: ([])
def wsX2_putInChain : List Cond := .code yX2_putInChain cX2_putInChain 5 none :: ([.fieldLink RX2 154 "FeatureStore$Row" "feature" "I", .fieldLink RX2 155 "FeatureStore$Row" "entity" "I", .fieldLink RX2 19 "FeatureStore" "latest" "[LFeatureStore$Row;", .fieldLink RX2 76 "FeatureStore$Row" "event" "I", .fieldLink RX2 87 "FeatureStore$Row" "older" "LFeatureStore$Row;", .methodLink RX2 83 yX2_placeOf, .static yX2_placeOf, .initialized RX2, .code yX2_placeOf cX2_placeOf 2 (some .int)] ++ wsX00 ++ wsX20)
def wsX2_arrive_r1 : List Cond := [Cond.classLink RX2 47 "java/lang/IllegalStateException", Cond.initialized "java/lang/IllegalStateException", Cond.fieldLink RX2 35 "FeatureStore" "now" "I", Cond.constant RX2 43 (100000), Cond.fieldLink RX2 44 "FeatureStore" "rowCount" "I", Cond.classLink RX2 13 RX0, Cond.instantiable RX0 7, Cond.initialized RX0, Cond.fieldLink RX2 15 "FeatureStore" "rows" "[LFeatureStore$Row;", Cond.fieldLink RX2 61 "FeatureStore$Row" "number" "I", Cond.methodLink RX2 31 yX2_requirePair, Cond.static yX2_requirePair, Cond.initialized RX2, Cond.code yX2_requirePair cX2_requirePair 2 none, Cond.methodLink RX2 39 yX2_requireRange, Cond.static yX2_requireRange, Cond.code yX2_requireRange cX2_requireRange 3 none, Cond.classLink RX2 142 "java/lang/IllegalArgumentException", Cond.initialized "java/lang/IllegalArgumentException", Cond.methodLink RX2 54 yX0_init, Cond.instanceMethod yX0_init, Cond.code yX0_init cX0_init 7 none, Cond.methodLink RX0 1 objectInit, Cond.instanceMethod objectInit]
def wsX2_arrive_r2 : List Cond := [Cond.code objectInit ⟨#[0xb1]⟩ 1 none, Cond.fieldLink RX0 7 "FeatureStore$Row" "number" "I", Cond.fieldLink RX0 13 "FeatureStore$Row" "feature" "I", Cond.fieldLink RX0 16 "FeatureStore$Row" "entity" "I", Cond.fieldLink RX0 19 "FeatureStore$Row" "event" "I", Cond.fieldLink RX0 22 "FeatureStore$Row" "arrival" "I", Cond.fieldLink RX0 25 "FeatureStore$Row" "value" "I", Cond.methodLink RX2 57 yX2_putInChain, Cond.instanceMethod yX2_putInChain, Cond.selects RX2 yX2_putInChain yX2_putInChain, Cond.code yX2_putInChain cX2_putInChain 5 none, Cond.fieldLink RX2 154 "FeatureStore$Row" "feature" "I", Cond.fieldLink RX2 155 "FeatureStore$Row" "entity" "I", Cond.fieldLink RX2 19 "FeatureStore" "latest" "[LFeatureStore$Row;", Cond.fieldLink RX2 76 "FeatureStore$Row" "event" "I", Cond.fieldLink RX2 87 "FeatureStore$Row" "older" "LFeatureStore$Row;", Cond.methodLink RX2 83 yX2_placeOf, Cond.static yX2_placeOf, Cond.code yX2_placeOf cX2_placeOf 2 (some .int)]
def wsX2_arrive : List Cond := .code yX2_arrive cX2_arrive 6 (some .int) :: ((wsX2_arrive_r1 ++ wsX2_arrive_r2) ++ wsX20 ++ wsX00 ++ (vx_atS RX2 51 "java/lang/IllegalStateException" ["java/lang/RuntimeException", "java/lang/Exception"]).filter goodWord ++ (vx_atS RX2 146 "java/lang/IllegalArgumentException" ["java/lang/RuntimeException", "java/lang/Exception"]).filter goodWord)
def wsX2_pass : List Cond := .code yX2_pass cX2_pass 2 (some .int) :: ([.classLink RX2 47 "java/lang/IllegalStateException", .initialized "java/lang/IllegalStateException", .fieldLink RX2 35 "FeatureStore" "now" "I", .methodLink RX2 39 yX2_requireRange, .static yX2_requireRange, .initialized RX2, .code yX2_requireRange cX2_requireRange 3 none, .classLink RX2 142 "java/lang/IllegalArgumentException", .initialized "java/lang/IllegalArgumentException"] ++ wsX20 ++ (vx_atS RX2 51 "java/lang/IllegalStateException" ["java/lang/RuntimeException", "java/lang/Exception"]).filter goodWord ++ (vx_atS RX2 146 "java/lang/IllegalArgumentException" ["java/lang/RuntimeException", "java/lang/Exception"]).filter goodWord)
def wsX2_setLifetime : List Cond := .code yX2_setLifetime cX2_setLifetime 4 (some .int) :: ([.fieldLink RX2 9 "FeatureStore" "lifetimes" "[I", .methodLink RX2 39 yX2_requireRange, .static yX2_requireRange, .initialized RX2, .code yX2_requireRange cX2_requireRange 3 none, .classLink RX2 142 "java/lang/IllegalArgumentException", .initialized "java/lang/IllegalArgumentException"] ++ wsX20 ++ (vx_atS RX2 146 "java/lang/IllegalArgumentException" ["java/lang/RuntimeException", "java/lang/Exception"]).filter goodWord)
def wsX2_now : List Cond := .code yX2_now cX2_now 1 (some .int) :: ([.fieldLink RX2 35 "FeatureStore" "now" "I"] ++ wsX20)
def wsX2_rows : List Cond := .code yX2_rows cX2_rows 1 (some .int) :: ([.fieldLink RX2 44 "FeatureStore" "rowCount" "I"] ++ wsX20)
def wsX2_rowOrNull : List Cond := .code yX2_rowOrNull cX2_rowOrNull 2 (some (.object "FeatureStore$Row")) :: ([.fieldLink RX2 44 "FeatureStore" "rowCount" "I", .fieldLink RX2 15 "FeatureStore" "rows" "[LFeatureStore$Row;"] ++ wsX20)
def wsX2_requireRow : List Cond := .code yX2_requireRow cX2_requireRow 3 (some (.object "FeatureStore$Row")) :: ([.classLink RX2 147 "java/lang/IndexOutOfBoundsException", .initialized "java/lang/IndexOutOfBoundsException", .methodLink RX2 105 yX2_rowOrNull, .instanceMethod yX2_rowOrNull, .selects RX2 yX2_rowOrNull yX2_rowOrNull, .initialized RX2, .code yX2_rowOrNull cX2_rowOrNull 2 (some (.object "FeatureStore$Row")), .fieldLink RX2 44 "FeatureStore" "rowCount" "I", .fieldLink RX2 15 "FeatureStore" "rows" "[LFeatureStore$Row;"] ++ wsX20 ++ (vx_atS RX2 151 "java/lang/IndexOutOfBoundsException" ["java/lang/RuntimeException", "java/lang/Exception"]).filter goodWord)
def wsX2_value : List Cond := .code yX2_value cX2_value 2 (some .int) :: ([.fieldLink RX2 70 "FeatureStore$Row" "value" "I", .methodLink RX2 66 yX2_requireRow, .instanceMethod yX2_requireRow, .selects RX2 yX2_requireRow yX2_requireRow, .initialized RX2, .code yX2_requireRow cX2_requireRow 3 (some (.object "FeatureStore$Row")), .classLink RX2 147 "java/lang/IndexOutOfBoundsException", .initialized "java/lang/IndexOutOfBoundsException", .methodLink RX2 105 yX2_rowOrNull, .instanceMethod yX2_rowOrNull, .selects RX2 yX2_rowOrNull yX2_rowOrNull, .code yX2_rowOrNull cX2_rowOrNull 2 (some (.object "FeatureStore$Row")), .fieldLink RX2 44 "FeatureStore" "rowCount" "I", .fieldLink RX2 15 "FeatureStore" "rows" "[LFeatureStore$Row;"] ++ wsX00 ++ wsX20 ++ (vx_atS RX2 151 "java/lang/IndexOutOfBoundsException" ["java/lang/RuntimeException", "java/lang/Exception"]).filter goodWord)
def wsX2_late : List Cond := .code yX2_late cX2_late 3 (some .int) :: ([.fieldLink RX2 73 "FeatureStore$Row" "arrival" "I", .fieldLink RX2 76 "FeatureStore$Row" "event" "I", .methodLink RX2 66 yX2_requireRow, .instanceMethod yX2_requireRow, .selects RX2 yX2_requireRow yX2_requireRow, .initialized RX2, .code yX2_requireRow cX2_requireRow 3 (some (.object "FeatureStore$Row")), .classLink RX2 147 "java/lang/IndexOutOfBoundsException", .initialized "java/lang/IndexOutOfBoundsException", .methodLink RX2 105 yX2_rowOrNull, .instanceMethod yX2_rowOrNull, .selects RX2 yX2_rowOrNull yX2_rowOrNull, .code yX2_rowOrNull cX2_rowOrNull 2 (some (.object "FeatureStore$Row")), .fieldLink RX2 44 "FeatureStore" "rowCount" "I", .fieldLink RX2 15 "FeatureStore" "rows" "[LFeatureStore$Row;"] ++ wsX00 ++ wsX20 ++ (vx_atS RX2 151 "java/lang/IndexOutOfBoundsException" ["java/lang/RuntimeException", "java/lang/Exception"]).filter goodWord)
def wsX2_numberUnlessExpired : List Cond := .code yX2_numberUnlessExpired cX2_numberUnlessExpired 3 (some .int) :: ([.fieldLink RX2 76 "FeatureStore$Row" "event" "I", .fieldLink RX2 9 "FeatureStore" "lifetimes" "[I", .fieldLink RX2 154 "FeatureStore$Row" "feature" "I", .fieldLink RX2 61 "FeatureStore$Row" "number" "I"] ++ wsX00 ++ wsX20)
def wsX2_find : List Cond := .code yX2_find cX2_find 6 (some .int) :: ([.fieldLink RX2 19 "FeatureStore" "latest" "[LFeatureStore$Row;", .fieldLink RX2 76 "FeatureStore$Row" "event" "I", .fieldLink RX2 73 "FeatureStore$Row" "arrival" "I", .fieldLink RX2 87 "FeatureStore$Row" "older" "LFeatureStore$Row;", .methodLink RX2 83 yX2_placeOf, .static yX2_placeOf, .initialized RX2, .code yX2_placeOf cX2_placeOf 2 (some .int), .methodLink RX2 156 yX2_numberUnlessExpired, .instanceMethod yX2_numberUnlessExpired, .selects RX2 yX2_numberUnlessExpired yX2_numberUnlessExpired, .code yX2_numberUnlessExpired cX2_numberUnlessExpired 3 (some .int), .fieldLink RX2 9 "FeatureStore" "lifetimes" "[I", .fieldLink RX2 154 "FeatureStore$Row" "feature" "I", .fieldLink RX2 61 "FeatureStore$Row" "number" "I"] ++ wsX20 ++ wsX00)
def wsX2_join_r1 : List Cond := [Cond.fieldLink RX2 35 "FeatureStore" "now" "I", Cond.methodLink RX2 31 yX2_requirePair, Cond.static yX2_requirePair, Cond.initialized RX2, Cond.code yX2_requirePair cX2_requirePair 2 none, Cond.methodLink RX2 39 yX2_requireRange, Cond.static yX2_requireRange, Cond.code yX2_requireRange cX2_requireRange 3 none, Cond.classLink RX2 142 "java/lang/IllegalArgumentException", Cond.initialized "java/lang/IllegalArgumentException", Cond.methodLink RX2 79 yX2_find, Cond.instanceMethod yX2_find, Cond.selects RX2 yX2_find yX2_find, Cond.code yX2_find cX2_find 6 (some .int), Cond.fieldLink RX2 19 "FeatureStore" "latest" "[LFeatureStore$Row;", Cond.fieldLink RX2 76 "FeatureStore$Row" "event" "I", Cond.fieldLink RX2 73 "FeatureStore$Row" "arrival" "I", Cond.fieldLink RX2 87 "FeatureStore$Row" "older" "LFeatureStore$Row;", Cond.methodLink RX2 83 yX2_placeOf, Cond.static yX2_placeOf, Cond.code yX2_placeOf cX2_placeOf 2 (some .int), Cond.methodLink RX2 156 yX2_numberUnlessExpired, Cond.instanceMethod yX2_numberUnlessExpired, Cond.selects RX2 yX2_numberUnlessExpired yX2_numberUnlessExpired]
def wsX2_join_r2 : List Cond := [Cond.code yX2_numberUnlessExpired cX2_numberUnlessExpired 3 (some .int), Cond.fieldLink RX2 9 "FeatureStore" "lifetimes" "[I", Cond.fieldLink RX2 154 "FeatureStore$Row" "feature" "I", Cond.fieldLink RX2 61 "FeatureStore$Row" "number" "I"]
def wsX2_join : List Cond := .code yX2_join cX2_join 5 (some .int) :: ((wsX2_join_r1 ++ wsX2_join_r2) ++ wsX20 ++ wsX00 ++ (vx_atS RX2 146 "java/lang/IllegalArgumentException" ["java/lang/RuntimeException", "java/lang/Exception"]).filter goodWord)
def wsX2_window : List Cond := .code yX2_window cX2_window 7 (some .int) :: ([.fieldLink RX2 19 "FeatureStore" "latest" "[LFeatureStore$Row;", .fieldLink RX2 76 "FeatureStore$Row" "event" "I", .fieldLink RX2 70 "FeatureStore$Row" "value" "I", .fieldLink RX2 87 "FeatureStore$Row" "older" "LFeatureStore$Row;", .methodLink RX2 31 yX2_requirePair, .static yX2_requirePair, .initialized RX2, .code yX2_requirePair cX2_requirePair 2 none, .methodLink RX2 39 yX2_requireRange, .static yX2_requireRange, .code yX2_requireRange cX2_requireRange 3 none, .classLink RX2 142 "java/lang/IllegalArgumentException", .initialized "java/lang/IllegalArgumentException", .methodLink RX2 83 yX2_placeOf, .static yX2_placeOf, .code yX2_placeOf cX2_placeOf 2 (some .int)] ++ wsX20 ++ wsX00 ++ (vx_atS RX2 146 "java/lang/IllegalArgumentException" ["java/lang/RuntimeException", "java/lang/Exception"]).filter goodWord)
def wsX2_greatestTile : List Cond := .code yX2_greatestTile cX2_greatestTile 9 (some .int) :: ([.fieldLink RX2 19 "FeatureStore" "latest" "[LFeatureStore$Row;", .fieldLink RX2 76 "FeatureStore$Row" "event" "I", .fieldLink RX2 70 "FeatureStore$Row" "value" "I", .methodLink RX2 91 Lib.Math.max.name, .static Lib.Math.max.name, .initialized "java/lang/Math", .code Lib.Math.max.name Lib.Math.max.code 2 (some .int), .fieldLink RX2 87 "FeatureStore$Row" "older" "LFeatureStore$Row;", .methodLink RX2 31 yX2_requirePair, .static yX2_requirePair, .initialized RX2, .code yX2_requirePair cX2_requirePair 2 none, .methodLink RX2 39 yX2_requireRange, .static yX2_requireRange, .code yX2_requireRange cX2_requireRange 3 none, .classLink RX2 142 "java/lang/IllegalArgumentException", .initialized "java/lang/IllegalArgumentException", .methodLink RX2 83 yX2_placeOf, .static yX2_placeOf, .code yX2_placeOf cX2_placeOf 2 (some .int)] ++ wsX20 ++ wsX00 ++ (vx_atS RX2 146 "java/lang/IllegalArgumentException" ["java/lang/RuntimeException", "java/lang/Exception"]).filter goodWord)
def wsX2_tiles : List Cond := .code yX2_tiles cX2_tiles 8 (some .int) :: ([.fieldLink RX2 19 "FeatureStore" "latest" "[LFeatureStore$Row;", .fieldLink RX2 76 "FeatureStore$Row" "event" "I", .fieldLink RX2 87 "FeatureStore$Row" "older" "LFeatureStore$Row;", .methodLink RX2 31 yX2_requirePair, .static yX2_requirePair, .initialized RX2, .code yX2_requirePair cX2_requirePair 2 none, .methodLink RX2 39 yX2_requireRange, .static yX2_requireRange, .code yX2_requireRange cX2_requireRange 3 none, .classLink RX2 142 "java/lang/IllegalArgumentException", .initialized "java/lang/IllegalArgumentException", .methodLink RX2 83 yX2_placeOf, .static yX2_placeOf, .code yX2_placeOf cX2_placeOf 2 (some .int)] ++ wsX20 ++ wsX00 ++ (vx_atS RX2 146 "java/lang/IllegalArgumentException" ["java/lang/RuntimeException", "java/lang/Exception"]).filter goodWord)
def wsX2_multiplesBelow : List Cond := .code yX2_multiplesBelow cX2_multiplesBelow 2 (some .int) :: ([])
def wsX2_revised_r1 : List Cond := [Cond.fieldLink RX2 35 "FeatureStore" "now" "I", Cond.fieldLink RX2 19 "FeatureStore" "latest" "[LFeatureStore$Row;", Cond.fieldLink RX2 76 "FeatureStore$Row" "event" "I", Cond.fieldLink RX2 9 "FeatureStore" "lifetimes" "[I", Cond.methodLink RX2 96 Lib.Math.min.name, Cond.static Lib.Math.min.name, Cond.initialized "java/lang/Math", Cond.code Lib.Math.min.name Lib.Math.min.code 2 (some .int), Cond.fieldLink RX2 73 "FeatureStore$Row" "arrival" "I", Cond.fieldLink RX2 87 "FeatureStore$Row" "older" "LFeatureStore$Row;", Cond.methodLink RX2 31 yX2_requirePair, Cond.static yX2_requirePair, Cond.initialized RX2, Cond.code yX2_requirePair cX2_requirePair 2 none, Cond.methodLink RX2 39 yX2_requireRange, Cond.static yX2_requireRange, Cond.code yX2_requireRange cX2_requireRange 3 none, Cond.classLink RX2 142 "java/lang/IllegalArgumentException", Cond.initialized "java/lang/IllegalArgumentException", Cond.methodLink RX2 83 yX2_placeOf, Cond.static yX2_placeOf, Cond.code yX2_placeOf cX2_placeOf 2 (some .int), Cond.methodLink RX2 99 yX2_multiplesBelow, Cond.static yX2_multiplesBelow]
def wsX2_revised_r2 : List Cond := [Cond.code yX2_multiplesBelow cX2_multiplesBelow 2 (some .int)]
def wsX2_revised : List Cond := .code yX2_revised cX2_revised 9 (some .int) :: ((wsX2_revised_r1 ++ wsX2_revised_r2) ++ wsX20 ++ wsX00 ++ (vx_atS RX2 146 "java/lang/IllegalArgumentException" ["java/lang/RuntimeException", "java/lang/Exception"]).filter goodWord)
def wsX2_takeIn : List Cond := .code yX2_takeIn cX2_takeIn 4 none :: ([.fieldLink RX2 154 "FeatureStore$Row" "feature" "I", .fieldLink RX2 155 "FeatureStore$Row" "entity" "I", .fieldLink RX2 22 "FeatureStore" "onlineCopy" "[LFeatureStore$Row;", .fieldLink RX2 76 "FeatureStore$Row" "event" "I", .methodLink RX2 83 yX2_placeOf, .static yX2_placeOf, .initialized RX2, .code yX2_placeOf cX2_placeOf 2 (some .int)] ++ wsX00 ++ wsX20)
def wsX2_take : List Cond := .code yX2_take cX2_take 4 (some .int) :: ([.fieldLink RX2 102 "FeatureStore" "taken" "I", .methodLink RX2 39 yX2_requireRange, .static yX2_requireRange, .initialized RX2, .code yX2_requireRange cX2_requireRange 3 none, .classLink RX2 142 "java/lang/IllegalArgumentException", .initialized "java/lang/IllegalArgumentException", .methodLink RX2 105 yX2_rowOrNull, .instanceMethod yX2_rowOrNull, .selects RX2 yX2_rowOrNull yX2_rowOrNull, .code yX2_rowOrNull cX2_rowOrNull 2 (some (.object "FeatureStore$Row")), .fieldLink RX2 44 "FeatureStore" "rowCount" "I", .fieldLink RX2 15 "FeatureStore" "rows" "[LFeatureStore$Row;", .methodLink RX2 108 yX2_takeIn, .instanceMethod yX2_takeIn, .selects RX2 yX2_takeIn yX2_takeIn, .code yX2_takeIn cX2_takeIn 4 none, .fieldLink RX2 154 "FeatureStore$Row" "feature" "I", .fieldLink RX2 155 "FeatureStore$Row" "entity" "I", .fieldLink RX2 22 "FeatureStore" "onlineCopy" "[LFeatureStore$Row;", .fieldLink RX2 76 "FeatureStore$Row" "event" "I", .methodLink RX2 83 yX2_placeOf, .static yX2_placeOf, .code yX2_placeOf cX2_placeOf 2 (some .int)] ++ wsX20 ++ wsX00 ++ (vx_atS RX2 146 "java/lang/IllegalArgumentException" ["java/lang/RuntimeException", "java/lang/Exception"]).filter goodWord)
def wsX2_lag : List Cond := .code yX2_lag cX2_lag 1 (some .int) :: ([.fieldLink RX2 44 "FeatureStore" "rowCount" "I", .fieldLink RX2 102 "FeatureStore" "taken" "I"] ++ wsX20)
def wsX2_tell : List Cond := .code yX2_tell cX2_tell 3 (some .int) :: ([.fieldLink RX2 22 "FeatureStore" "onlineCopy" "[LFeatureStore$Row;", .fieldLink RX2 35 "FeatureStore" "now" "I", .methodLink RX2 83 yX2_placeOf, .static yX2_placeOf, .initialized RX2, .code yX2_placeOf cX2_placeOf 2 (some .int), .methodLink RX2 156 yX2_numberUnlessExpired, .instanceMethod yX2_numberUnlessExpired, .selects RX2 yX2_numberUnlessExpired yX2_numberUnlessExpired, .code yX2_numberUnlessExpired cX2_numberUnlessExpired 3 (some .int), .fieldLink RX2 76 "FeatureStore$Row" "event" "I", .fieldLink RX2 9 "FeatureStore" "lifetimes" "[I", .fieldLink RX2 154 "FeatureStore$Row" "feature" "I", .fieldLink RX2 61 "FeatureStore$Row" "number" "I"] ++ wsX20 ++ wsX00)
def wsX2_online_r1 : List Cond := [Cond.methodLink RX2 31 yX2_requirePair, Cond.static yX2_requirePair, Cond.initialized RX2, Cond.code yX2_requirePair cX2_requirePair 2 none, Cond.methodLink RX2 39 yX2_requireRange, Cond.static yX2_requireRange, Cond.code yX2_requireRange cX2_requireRange 3 none, Cond.classLink RX2 142 "java/lang/IllegalArgumentException", Cond.initialized "java/lang/IllegalArgumentException", Cond.methodLink RX2 111 yX2_tell, Cond.instanceMethod yX2_tell, Cond.selects RX2 yX2_tell yX2_tell, Cond.code yX2_tell cX2_tell 3 (some .int), Cond.fieldLink RX2 22 "FeatureStore" "onlineCopy" "[LFeatureStore$Row;", Cond.fieldLink RX2 35 "FeatureStore" "now" "I", Cond.methodLink RX2 83 yX2_placeOf, Cond.static yX2_placeOf, Cond.code yX2_placeOf cX2_placeOf 2 (some .int), Cond.methodLink RX2 156 yX2_numberUnlessExpired, Cond.instanceMethod yX2_numberUnlessExpired, Cond.selects RX2 yX2_numberUnlessExpired yX2_numberUnlessExpired, Cond.code yX2_numberUnlessExpired cX2_numberUnlessExpired 3 (some .int), Cond.fieldLink RX2 76 "FeatureStore$Row" "event" "I", Cond.fieldLink RX2 9 "FeatureStore" "lifetimes" "[I"]
def wsX2_online_r2 : List Cond := [Cond.fieldLink RX2 154 "FeatureStore$Row" "feature" "I", Cond.fieldLink RX2 61 "FeatureStore$Row" "number" "I"]
def wsX2_online : List Cond := .code yX2_online cX2_online 3 (some .int) :: ((wsX2_online_r1 ++ wsX2_online_r2) ++ wsX20 ++ wsX00 ++ (vx_atS RX2 146 "java/lang/IllegalArgumentException" ["java/lang/RuntimeException", "java/lang/Exception"]).filter goodWord)
def wsX2_skew_r1 : List Cond := [Cond.fieldLink RX2 35 "FeatureStore" "now" "I", Cond.methodLink RX2 111 yX2_tell, Cond.instanceMethod yX2_tell, Cond.selects RX2 yX2_tell yX2_tell, Cond.initialized RX2, Cond.code yX2_tell cX2_tell 3 (some .int), Cond.fieldLink RX2 22 "FeatureStore" "onlineCopy" "[LFeatureStore$Row;", Cond.methodLink RX2 83 yX2_placeOf, Cond.static yX2_placeOf, Cond.code yX2_placeOf cX2_placeOf 2 (some .int), Cond.methodLink RX2 156 yX2_numberUnlessExpired, Cond.instanceMethod yX2_numberUnlessExpired, Cond.selects RX2 yX2_numberUnlessExpired yX2_numberUnlessExpired, Cond.code yX2_numberUnlessExpired cX2_numberUnlessExpired 3 (some .int), Cond.fieldLink RX2 76 "FeatureStore$Row" "event" "I", Cond.fieldLink RX2 9 "FeatureStore" "lifetimes" "[I", Cond.fieldLink RX2 154 "FeatureStore$Row" "feature" "I", Cond.fieldLink RX2 61 "FeatureStore$Row" "number" "I", Cond.methodLink RX2 79 yX2_find, Cond.instanceMethod yX2_find, Cond.selects RX2 yX2_find yX2_find, Cond.code yX2_find cX2_find 6 (some .int), Cond.fieldLink RX2 19 "FeatureStore" "latest" "[LFeatureStore$Row;", Cond.fieldLink RX2 73 "FeatureStore$Row" "arrival" "I"]
def wsX2_skew_r2 : List Cond := [Cond.fieldLink RX2 87 "FeatureStore$Row" "older" "LFeatureStore$Row;"]
def wsX2_skew : List Cond := .code yX2_skew cX2_skew 4 (some .int) :: ((wsX2_skew_r1 ++ wsX2_skew_r2) ++ wsX20 ++ wsX00)
def wsX2_serve_r1 : List Cond := [Cond.classLink RX2 47 "java/lang/IllegalStateException", Cond.initialized "java/lang/IllegalStateException", Cond.fieldLink RX2 114 "FeatureStore" "servingCount" "I", Cond.fieldLink RX2 27 "FeatureStore" "servings" "[LFeatureStore$Serving;", Cond.classLink RX2 25 RX1, Cond.instantiable RX1 4, Cond.initialized RX1, Cond.fieldLink RX2 35 "FeatureStore" "now" "I", Cond.methodLink RX2 31 yX2_requirePair, Cond.static yX2_requirePair, Cond.initialized RX2, Cond.code yX2_requirePair cX2_requirePair 2 none, Cond.methodLink RX2 39 yX2_requireRange, Cond.static yX2_requireRange, Cond.code yX2_requireRange cX2_requireRange 3 none, Cond.classLink RX2 142 "java/lang/IllegalArgumentException", Cond.initialized "java/lang/IllegalArgumentException", Cond.methodLink RX2 111 yX2_tell, Cond.instanceMethod yX2_tell, Cond.selects RX2 yX2_tell yX2_tell, Cond.code yX2_tell cX2_tell 3 (some .int), Cond.fieldLink RX2 22 "FeatureStore" "onlineCopy" "[LFeatureStore$Row;", Cond.methodLink RX2 83 yX2_placeOf, Cond.static yX2_placeOf]
def wsX2_serve_r2 : List Cond := [Cond.code yX2_placeOf cX2_placeOf 2 (some .int), Cond.methodLink RX2 156 yX2_numberUnlessExpired, Cond.instanceMethod yX2_numberUnlessExpired, Cond.selects RX2 yX2_numberUnlessExpired yX2_numberUnlessExpired, Cond.code yX2_numberUnlessExpired cX2_numberUnlessExpired 3 (some .int), Cond.fieldLink RX2 76 "FeatureStore$Row" "event" "I", Cond.fieldLink RX2 9 "FeatureStore" "lifetimes" "[I", Cond.fieldLink RX2 154 "FeatureStore$Row" "feature" "I", Cond.fieldLink RX2 61 "FeatureStore$Row" "number" "I", Cond.methodLink RX2 119 yX1_init, Cond.instanceMethod yX1_init, Cond.code yX1_init cX1_init 5 none, Cond.methodLink RX1 1 objectInit, Cond.instanceMethod objectInit, Cond.code objectInit ⟨#[0xb1]⟩ 1 none, Cond.fieldLink RX1 7 "FeatureStore$Serving" "feature" "I", Cond.fieldLink RX1 13 "FeatureStore$Serving" "entity" "I", Cond.fieldLink RX1 16 "FeatureStore$Serving" "time" "I", Cond.fieldLink RX1 19 "FeatureStore$Serving" "row" "I"]
def wsX2_serve : List Cond := .code yX2_serve cX2_serve 4 (some .int) :: ((wsX2_serve_r1 ++ wsX2_serve_r2) ++ wsX20 ++ wsX10 ++ wsX00 ++ (vx_atS RX2 51 "java/lang/IllegalStateException" ["java/lang/RuntimeException", "java/lang/Exception"]).filter goodWord ++ (vx_atS RX2 146 "java/lang/IllegalArgumentException" ["java/lang/RuntimeException", "java/lang/Exception"]).filter goodWord)
def wsX2_servings : List Cond := .code yX2_servings cX2_servings 1 (some .int) :: ([.fieldLink RX2 114 "FeatureStore" "servingCount" "I"] ++ wsX20)
def wsX2_requireServing : List Cond := .code yX2_requireServing cX2_requireServing 2 (some (.object "FeatureStore$Serving")) :: ([.classLink RX2 147 "java/lang/IndexOutOfBoundsException", .initialized "java/lang/IndexOutOfBoundsException", .fieldLink RX2 114 "FeatureStore" "servingCount" "I", .fieldLink RX2 27 "FeatureStore" "servings" "[LFeatureStore$Serving;"] ++ wsX20 ++ (vx_atS RX2 151 "java/lang/IndexOutOfBoundsException" ["java/lang/RuntimeException", "java/lang/Exception"]).filter goodWord)
def wsX2_served : List Cond := .code yX2_served cX2_served 2 (some .int) :: ([.fieldLink RX2 126 "FeatureStore$Serving" "row" "I", .methodLink RX2 122 yX2_requireServing, .instanceMethod yX2_requireServing, .selects RX2 yX2_requireServing yX2_requireServing, .initialized RX2, .code yX2_requireServing cX2_requireServing 2 (some (.object "FeatureStore$Serving")), .classLink RX2 147 "java/lang/IndexOutOfBoundsException", .initialized "java/lang/IndexOutOfBoundsException", .fieldLink RX2 114 "FeatureStore" "servingCount" "I", .fieldLink RX2 27 "FeatureStore" "servings" "[LFeatureStore$Serving;"] ++ wsX10 ++ wsX20 ++ (vx_atS RX2 151 "java/lang/IndexOutOfBoundsException" ["java/lang/RuntimeException", "java/lang/Exception"]).filter goodWord)
def wsX2_isSound_r1 : List Cond := [Cond.fieldLink RX2 126 "FeatureStore$Serving" "row" "I", Cond.fieldLink RX2 129 "FeatureStore$Serving" "feature" "I", Cond.fieldLink RX2 132 "FeatureStore$Serving" "entity" "I", Cond.fieldLink RX2 135 "FeatureStore$Serving" "time" "I", Cond.methodLink RX2 122 yX2_requireServing, Cond.instanceMethod yX2_requireServing, Cond.selects RX2 yX2_requireServing yX2_requireServing, Cond.initialized RX2, Cond.code yX2_requireServing cX2_requireServing 2 (some (.object "FeatureStore$Serving")), Cond.classLink RX2 147 "java/lang/IndexOutOfBoundsException", Cond.initialized "java/lang/IndexOutOfBoundsException", Cond.fieldLink RX2 114 "FeatureStore" "servingCount" "I", Cond.fieldLink RX2 27 "FeatureStore" "servings" "[LFeatureStore$Serving;", Cond.methodLink RX2 79 yX2_find, Cond.instanceMethod yX2_find, Cond.selects RX2 yX2_find yX2_find, Cond.code yX2_find cX2_find 6 (some .int), Cond.fieldLink RX2 19 "FeatureStore" "latest" "[LFeatureStore$Row;", Cond.fieldLink RX2 76 "FeatureStore$Row" "event" "I", Cond.fieldLink RX2 73 "FeatureStore$Row" "arrival" "I", Cond.fieldLink RX2 87 "FeatureStore$Row" "older" "LFeatureStore$Row;", Cond.methodLink RX2 83 yX2_placeOf, Cond.static yX2_placeOf, Cond.code yX2_placeOf cX2_placeOf 2 (some .int)]
def wsX2_isSound_r2 : List Cond := [Cond.methodLink RX2 156 yX2_numberUnlessExpired, Cond.instanceMethod yX2_numberUnlessExpired, Cond.selects RX2 yX2_numberUnlessExpired yX2_numberUnlessExpired, Cond.code yX2_numberUnlessExpired cX2_numberUnlessExpired 3 (some .int), Cond.fieldLink RX2 9 "FeatureStore" "lifetimes" "[I", Cond.fieldLink RX2 154 "FeatureStore$Row" "feature" "I", Cond.fieldLink RX2 61 "FeatureStore$Row" "number" "I"]
def wsX2_isSound : List Cond := .code yX2_isSound cX2_isSound 3 (some .boolean) :: ((wsX2_isSound_r1 ++ wsX2_isSound_r2) ++ wsX10 ++ wsX20 ++ wsX00 ++ (vx_atS RX2 151 "java/lang/IndexOutOfBoundsException" ["java/lang/RuntimeException", "java/lang/Exception"]).filter goodWord)
def wsX2_unsound_r1 : List Cond := [Cond.fieldLink RX2 114 "FeatureStore" "servingCount" "I", Cond.methodLink RX2 138 yX2_isSound, Cond.instanceMethod yX2_isSound, Cond.selects RX2 yX2_isSound yX2_isSound, Cond.initialized RX2, Cond.code yX2_isSound cX2_isSound 3 (some .boolean), Cond.fieldLink RX2 126 "FeatureStore$Serving" "row" "I", Cond.fieldLink RX2 129 "FeatureStore$Serving" "feature" "I", Cond.fieldLink RX2 132 "FeatureStore$Serving" "entity" "I", Cond.fieldLink RX2 135 "FeatureStore$Serving" "time" "I", Cond.methodLink RX2 122 yX2_requireServing, Cond.instanceMethod yX2_requireServing, Cond.selects RX2 yX2_requireServing yX2_requireServing, Cond.code yX2_requireServing cX2_requireServing 2 (some (.object "FeatureStore$Serving")), Cond.classLink RX2 147 "java/lang/IndexOutOfBoundsException", Cond.initialized "java/lang/IndexOutOfBoundsException", Cond.fieldLink RX2 27 "FeatureStore" "servings" "[LFeatureStore$Serving;", Cond.methodLink RX2 79 yX2_find, Cond.instanceMethod yX2_find, Cond.selects RX2 yX2_find yX2_find, Cond.code yX2_find cX2_find 6 (some .int), Cond.fieldLink RX2 19 "FeatureStore" "latest" "[LFeatureStore$Row;", Cond.fieldLink RX2 76 "FeatureStore$Row" "event" "I", Cond.fieldLink RX2 73 "FeatureStore$Row" "arrival" "I"]
def wsX2_unsound_r2 : List Cond := [Cond.fieldLink RX2 87 "FeatureStore$Row" "older" "LFeatureStore$Row;", Cond.methodLink RX2 83 yX2_placeOf, Cond.static yX2_placeOf, Cond.code yX2_placeOf cX2_placeOf 2 (some .int), Cond.methodLink RX2 156 yX2_numberUnlessExpired, Cond.instanceMethod yX2_numberUnlessExpired, Cond.selects RX2 yX2_numberUnlessExpired yX2_numberUnlessExpired, Cond.code yX2_numberUnlessExpired cX2_numberUnlessExpired 3 (some .int), Cond.fieldLink RX2 9 "FeatureStore" "lifetimes" "[I", Cond.fieldLink RX2 154 "FeatureStore$Row" "feature" "I", Cond.fieldLink RX2 61 "FeatureStore$Row" "number" "I"]
def wsX2_unsound : List Cond := .code yX2_unsound cX2_unsound 3 (some .int) :: ((wsX2_unsound_r1 ++ wsX2_unsound_r2) ++ wsX20 ++ wsX10 ++ wsX00 ++ (vx_atS RX2 151 "java/lang/IndexOutOfBoundsException" ["java/lang/RuntimeException", "java/lang/Exception"]).filter goodWord)
def wsJ9_max_7cf53 : List Cond := .code yJ9_max_7cf53 cJ9_max_7cf53 2 (some .int) :: ([])
def wsJ9_min_7cf53 : List Cond := .code yJ9_min_7cf53 cJ9_min_7cf53 2 (some .int) :: ([])
def wsL_cell : List Cond := .code yL_cell cL_cell 2 (some .int) :: ([.constant RL 7 (1237309411)])
def wsL_low : List Cond := .code yL_low cL_low 2 (some .int) :: ([])
def wsL_arrive_r1 : List Cond := [Cond.classLink RL 14 "java/lang/IllegalArgumentException", Cond.methodLink RL 8 yX2_arrive, Cond.instanceMethod yX2_arrive, Cond.selects RX2 yX2_arrive yX2_arrive, Cond.initialized RX2, Cond.code yX2_arrive cX2_arrive 6 (some .int), Cond.classLink RX2 47 "java/lang/IllegalStateException", Cond.initialized "java/lang/IllegalStateException", Cond.fieldLink RX2 35 "FeatureStore" "now" "I", Cond.constant RX2 43 (100000), Cond.fieldLink RX2 44 "FeatureStore" "rowCount" "I", Cond.classLink RX2 13 RX0, Cond.instantiable RX0 7, Cond.initialized RX0, Cond.fieldLink RX2 15 "FeatureStore" "rows" "[LFeatureStore$Row;", Cond.fieldLink RX2 61 "FeatureStore$Row" "number" "I", Cond.methodLink RX2 31 yX2_requirePair, Cond.static yX2_requirePair, Cond.code yX2_requirePair cX2_requirePair 2 none, Cond.methodLink RX2 39 yX2_requireRange, Cond.static yX2_requireRange, Cond.code yX2_requireRange cX2_requireRange 3 none, Cond.classLink RX2 142 "java/lang/IllegalArgumentException", Cond.initialized "java/lang/IllegalArgumentException"]
def wsL_arrive_r2 : List Cond := [Cond.methodLink RX2 54 yX0_init, Cond.instanceMethod yX0_init, Cond.code yX0_init cX0_init 7 none, Cond.methodLink RX0 1 objectInit, Cond.instanceMethod objectInit, Cond.code objectInit ⟨#[0xb1]⟩ 1 none, Cond.fieldLink RX0 7 "FeatureStore$Row" "number" "I", Cond.fieldLink RX0 13 "FeatureStore$Row" "feature" "I", Cond.fieldLink RX0 16 "FeatureStore$Row" "entity" "I", Cond.fieldLink RX0 19 "FeatureStore$Row" "event" "I", Cond.fieldLink RX0 22 "FeatureStore$Row" "arrival" "I", Cond.fieldLink RX0 25 "FeatureStore$Row" "value" "I", Cond.methodLink RX2 57 yX2_putInChain, Cond.instanceMethod yX2_putInChain, Cond.selects RX2 yX2_putInChain yX2_putInChain, Cond.code yX2_putInChain cX2_putInChain 5 none, Cond.fieldLink RX2 154 "FeatureStore$Row" "feature" "I", Cond.fieldLink RX2 155 "FeatureStore$Row" "entity" "I", Cond.fieldLink RX2 19 "FeatureStore" "latest" "[LFeatureStore$Row;", Cond.fieldLink RX2 76 "FeatureStore$Row" "event" "I", Cond.fieldLink RX2 87 "FeatureStore$Row" "older" "LFeatureStore$Row;", Cond.methodLink RX2 83 yX2_placeOf, Cond.static yX2_placeOf, Cond.code yX2_placeOf cX2_placeOf 2 (some .int)]
def wsL_arrive : List Cond := .codeWith yL_arrive cL_arrive 7 (some .int) [(0, 11, 14, 14)] :: ((wsL_arrive_r1 ++ wsL_arrive_r2) ++ wsX20 ++ wsX00 ++ (vx_atS RX2 51 "java/lang/IllegalStateException" ["java/lang/RuntimeException", "java/lang/Exception"]).filter goodWord ++ (vx_atS RX2 146 "java/lang/IllegalArgumentException" ["java/lang/RuntimeException", "java/lang/Exception"]).filter goodWord)
def wsL_pass : List Cond := .codeWith yL_pass cL_pass 4 (some .int) [(0, 6, 9, 14), (0, 6, 13, 20)] :: ([.classLink RL 14 "java/lang/IllegalArgumentException", .classLink RL 20 "java/lang/IllegalStateException", .methodLink RL 16 yX2_pass, .instanceMethod yX2_pass, .selects RX2 yX2_pass yX2_pass, .initialized RX2, .code yX2_pass cX2_pass 2 (some .int), .classLink RX2 47 "java/lang/IllegalStateException", .initialized "java/lang/IllegalStateException", .fieldLink RX2 35 "FeatureStore" "now" "I", .methodLink RX2 39 yX2_requireRange, .static yX2_requireRange, .code yX2_requireRange cX2_requireRange 3 none, .classLink RX2 142 "java/lang/IllegalArgumentException", .initialized "java/lang/IllegalArgumentException"] ++ wsX20 ++ (vx_atS RX2 51 "java/lang/IllegalStateException" ["java/lang/RuntimeException", "java/lang/Exception"]).filter goodWord ++ (vx_atS RX2 146 "java/lang/IllegalArgumentException" ["java/lang/RuntimeException", "java/lang/Exception"]).filter goodWord)
def wsL_setLifetime : List Cond := .codeWith yL_setLifetime cL_setLifetime 5 (some .int) [(0, 7, 10, 14)] :: ([.classLink RL 14 "java/lang/IllegalArgumentException", .methodLink RL 22 yX2_setLifetime, .instanceMethod yX2_setLifetime, .selects RX2 yX2_setLifetime yX2_setLifetime, .initialized RX2, .code yX2_setLifetime cX2_setLifetime 4 (some .int), .fieldLink RX2 9 "FeatureStore" "lifetimes" "[I", .methodLink RX2 39 yX2_requireRange, .static yX2_requireRange, .code yX2_requireRange cX2_requireRange 3 none, .classLink RX2 142 "java/lang/IllegalArgumentException", .initialized "java/lang/IllegalArgumentException"] ++ wsX20 ++ (vx_atS RX2 146 "java/lang/IllegalArgumentException" ["java/lang/RuntimeException", "java/lang/Exception"]).filter goodWord)
def wsL_value : List Cond := .codeWith yL_value cL_value 4 (some .int) [(0, 6, 9, 29)] :: ([.classLink RL 29 "java/lang/IndexOutOfBoundsException", .methodLink RL 26 yX2_value, .instanceMethod yX2_value, .selects RX2 yX2_value yX2_value, .initialized RX2, .code yX2_value cX2_value 2 (some .int), .fieldLink RX2 70 "FeatureStore$Row" "value" "I", .methodLink RX2 66 yX2_requireRow, .instanceMethod yX2_requireRow, .selects RX2 yX2_requireRow yX2_requireRow, .code yX2_requireRow cX2_requireRow 3 (some (.object "FeatureStore$Row")), .classLink RX2 147 "java/lang/IndexOutOfBoundsException", .initialized "java/lang/IndexOutOfBoundsException", .methodLink RX2 105 yX2_rowOrNull, .instanceMethod yX2_rowOrNull, .selects RX2 yX2_rowOrNull yX2_rowOrNull, .code yX2_rowOrNull cX2_rowOrNull 2 (some (.object "FeatureStore$Row")), .fieldLink RX2 44 "FeatureStore" "rowCount" "I", .fieldLink RX2 15 "FeatureStore" "rows" "[LFeatureStore$Row;"] ++ wsX00 ++ wsX20 ++ (vx_atS RX2 151 "java/lang/IndexOutOfBoundsException" ["java/lang/RuntimeException", "java/lang/Exception"]).filter goodWord)
def wsL_late : List Cond := .codeWith yL_late cL_late 4 (some .int) [(0, 6, 9, 29)] :: ([.classLink RL 29 "java/lang/IndexOutOfBoundsException", .methodLink RL 31 yX2_late, .instanceMethod yX2_late, .selects RX2 yX2_late yX2_late, .initialized RX2, .code yX2_late cX2_late 3 (some .int), .fieldLink RX2 73 "FeatureStore$Row" "arrival" "I", .fieldLink RX2 76 "FeatureStore$Row" "event" "I", .methodLink RX2 66 yX2_requireRow, .instanceMethod yX2_requireRow, .selects RX2 yX2_requireRow yX2_requireRow, .code yX2_requireRow cX2_requireRow 3 (some (.object "FeatureStore$Row")), .classLink RX2 147 "java/lang/IndexOutOfBoundsException", .initialized "java/lang/IndexOutOfBoundsException", .methodLink RX2 105 yX2_rowOrNull, .instanceMethod yX2_rowOrNull, .selects RX2 yX2_rowOrNull yX2_rowOrNull, .code yX2_rowOrNull cX2_rowOrNull 2 (some (.object "FeatureStore$Row")), .fieldLink RX2 44 "FeatureStore" "rowCount" "I", .fieldLink RX2 15 "FeatureStore" "rows" "[LFeatureStore$Row;"] ++ wsX00 ++ wsX20 ++ (vx_atS RX2 151 "java/lang/IndexOutOfBoundsException" ["java/lang/RuntimeException", "java/lang/Exception"]).filter goodWord)
def wsL_join_r1 : List Cond := [Cond.classLink RL 14 "java/lang/IllegalArgumentException", Cond.methodLink RL 34 yX2_join, Cond.instanceMethod yX2_join, Cond.selects RX2 yX2_join yX2_join, Cond.initialized RX2, Cond.code yX2_join cX2_join 5 (some .int), Cond.fieldLink RX2 35 "FeatureStore" "now" "I", Cond.methodLink RX2 31 yX2_requirePair, Cond.static yX2_requirePair, Cond.code yX2_requirePair cX2_requirePair 2 none, Cond.methodLink RX2 39 yX2_requireRange, Cond.static yX2_requireRange, Cond.code yX2_requireRange cX2_requireRange 3 none, Cond.classLink RX2 142 "java/lang/IllegalArgumentException", Cond.initialized "java/lang/IllegalArgumentException", Cond.methodLink RX2 79 yX2_find, Cond.instanceMethod yX2_find, Cond.selects RX2 yX2_find yX2_find, Cond.code yX2_find cX2_find 6 (some .int), Cond.fieldLink RX2 19 "FeatureStore" "latest" "[LFeatureStore$Row;", Cond.fieldLink RX2 76 "FeatureStore$Row" "event" "I", Cond.fieldLink RX2 73 "FeatureStore$Row" "arrival" "I", Cond.fieldLink RX2 87 "FeatureStore$Row" "older" "LFeatureStore$Row;", Cond.methodLink RX2 83 yX2_placeOf]
def wsL_join_r2 : List Cond := [Cond.static yX2_placeOf, Cond.code yX2_placeOf cX2_placeOf 2 (some .int), Cond.methodLink RX2 156 yX2_numberUnlessExpired, Cond.instanceMethod yX2_numberUnlessExpired, Cond.selects RX2 yX2_numberUnlessExpired yX2_numberUnlessExpired, Cond.code yX2_numberUnlessExpired cX2_numberUnlessExpired 3 (some .int), Cond.fieldLink RX2 9 "FeatureStore" "lifetimes" "[I", Cond.fieldLink RX2 154 "FeatureStore$Row" "feature" "I", Cond.fieldLink RX2 61 "FeatureStore$Row" "number" "I"]
def wsL_join : List Cond := .codeWith yL_join cL_join 7 (some .int) [(0, 11, 14, 14)] :: ((wsL_join_r1 ++ wsL_join_r2) ++ wsX20 ++ wsX00 ++ (vx_atS RX2 146 "java/lang/IllegalArgumentException" ["java/lang/RuntimeException", "java/lang/Exception"]).filter goodWord)
def wsL_window : List Cond := .codeWith yL_window cL_window 7 (some .int) [(0, 11, 14, 14)] :: ([.classLink RL 14 "java/lang/IllegalArgumentException", .methodLink RL 37 yX2_window, .instanceMethod yX2_window, .selects RX2 yX2_window yX2_window, .initialized RX2, .code yX2_window cX2_window 7 (some .int), .fieldLink RX2 19 "FeatureStore" "latest" "[LFeatureStore$Row;", .fieldLink RX2 76 "FeatureStore$Row" "event" "I", .fieldLink RX2 70 "FeatureStore$Row" "value" "I", .fieldLink RX2 87 "FeatureStore$Row" "older" "LFeatureStore$Row;", .methodLink RX2 31 yX2_requirePair, .static yX2_requirePair, .code yX2_requirePair cX2_requirePair 2 none, .methodLink RX2 39 yX2_requireRange, .static yX2_requireRange, .code yX2_requireRange cX2_requireRange 3 none, .classLink RX2 142 "java/lang/IllegalArgumentException", .initialized "java/lang/IllegalArgumentException", .methodLink RX2 83 yX2_placeOf, .static yX2_placeOf, .code yX2_placeOf cX2_placeOf 2 (some .int)] ++ wsX20 ++ wsX00 ++ (vx_atS RX2 146 "java/lang/IllegalArgumentException" ["java/lang/RuntimeException", "java/lang/Exception"]).filter goodWord)
def wsL_greatestTile_r1 : List Cond := [Cond.classLink RL 14 "java/lang/IllegalArgumentException", Cond.methodLink RL 40 yX2_greatestTile, Cond.instanceMethod yX2_greatestTile, Cond.selects RX2 yX2_greatestTile yX2_greatestTile, Cond.initialized RX2, Cond.code yX2_greatestTile cX2_greatestTile 9 (some .int), Cond.fieldLink RX2 19 "FeatureStore" "latest" "[LFeatureStore$Row;", Cond.fieldLink RX2 76 "FeatureStore$Row" "event" "I", Cond.fieldLink RX2 70 "FeatureStore$Row" "value" "I", Cond.methodLink RX2 91 Lib.Math.max.name, Cond.static Lib.Math.max.name, Cond.initialized "java/lang/Math", Cond.code Lib.Math.max.name Lib.Math.max.code 2 (some .int), Cond.fieldLink RX2 87 "FeatureStore$Row" "older" "LFeatureStore$Row;", Cond.methodLink RX2 31 yX2_requirePair, Cond.static yX2_requirePair, Cond.code yX2_requirePair cX2_requirePair 2 none, Cond.methodLink RX2 39 yX2_requireRange, Cond.static yX2_requireRange, Cond.code yX2_requireRange cX2_requireRange 3 none, Cond.classLink RX2 142 "java/lang/IllegalArgumentException", Cond.initialized "java/lang/IllegalArgumentException", Cond.methodLink RX2 83 yX2_placeOf, Cond.static yX2_placeOf]
def wsL_greatestTile_r2 : List Cond := [Cond.code yX2_placeOf cX2_placeOf 2 (some .int)]
def wsL_greatestTile : List Cond := .codeWith yL_greatestTile cL_greatestTile 6 (some .int) [(0, 9, 12, 14)] :: ((wsL_greatestTile_r1 ++ wsL_greatestTile_r2) ++ wsX20 ++ wsX00 ++ (vx_atS RX2 146 "java/lang/IllegalArgumentException" ["java/lang/RuntimeException", "java/lang/Exception"]).filter goodWord)
def wsL_tiles : List Cond := .codeWith yL_tiles cL_tiles 6 (some .int) [(0, 9, 12, 14)] :: ([.classLink RL 14 "java/lang/IllegalArgumentException", .methodLink RL 44 yX2_tiles, .instanceMethod yX2_tiles, .selects RX2 yX2_tiles yX2_tiles, .initialized RX2, .code yX2_tiles cX2_tiles 8 (some .int), .fieldLink RX2 19 "FeatureStore" "latest" "[LFeatureStore$Row;", .fieldLink RX2 76 "FeatureStore$Row" "event" "I", .fieldLink RX2 87 "FeatureStore$Row" "older" "LFeatureStore$Row;", .methodLink RX2 31 yX2_requirePair, .static yX2_requirePair, .code yX2_requirePair cX2_requirePair 2 none, .methodLink RX2 39 yX2_requireRange, .static yX2_requireRange, .code yX2_requireRange cX2_requireRange 3 none, .classLink RX2 142 "java/lang/IllegalArgumentException", .initialized "java/lang/IllegalArgumentException", .methodLink RX2 83 yX2_placeOf, .static yX2_placeOf, .code yX2_placeOf cX2_placeOf 2 (some .int)] ++ wsX20 ++ wsX00 ++ (vx_atS RX2 146 "java/lang/IllegalArgumentException" ["java/lang/RuntimeException", "java/lang/Exception"]).filter goodWord)
def wsL_revised_r1 : List Cond := [Cond.classLink RL 14 "java/lang/IllegalArgumentException", Cond.methodLink RL 47 yX2_revised, Cond.instanceMethod yX2_revised, Cond.selects RX2 yX2_revised yX2_revised, Cond.initialized RX2, Cond.code yX2_revised cX2_revised 9 (some .int), Cond.fieldLink RX2 35 "FeatureStore" "now" "I", Cond.fieldLink RX2 19 "FeatureStore" "latest" "[LFeatureStore$Row;", Cond.fieldLink RX2 76 "FeatureStore$Row" "event" "I", Cond.fieldLink RX2 9 "FeatureStore" "lifetimes" "[I", Cond.methodLink RX2 96 Lib.Math.min.name, Cond.static Lib.Math.min.name, Cond.initialized "java/lang/Math", Cond.code Lib.Math.min.name Lib.Math.min.code 2 (some .int), Cond.fieldLink RX2 73 "FeatureStore$Row" "arrival" "I", Cond.fieldLink RX2 87 "FeatureStore$Row" "older" "LFeatureStore$Row;", Cond.methodLink RX2 31 yX2_requirePair, Cond.static yX2_requirePair, Cond.code yX2_requirePair cX2_requirePair 2 none, Cond.methodLink RX2 39 yX2_requireRange, Cond.static yX2_requireRange, Cond.code yX2_requireRange cX2_requireRange 3 none, Cond.classLink RX2 142 "java/lang/IllegalArgumentException", Cond.initialized "java/lang/IllegalArgumentException"]
def wsL_revised_r2 : List Cond := [Cond.methodLink RX2 83 yX2_placeOf, Cond.static yX2_placeOf, Cond.code yX2_placeOf cX2_placeOf 2 (some .int), Cond.methodLink RX2 99 yX2_multiplesBelow, Cond.static yX2_multiplesBelow, Cond.code yX2_multiplesBelow cX2_multiplesBelow 2 (some .int)]
def wsL_revised : List Cond := .codeWith yL_revised cL_revised 6 (some .int) [(0, 9, 12, 14)] :: ((wsL_revised_r1 ++ wsL_revised_r2) ++ wsX20 ++ wsX00 ++ (vx_atS RX2 146 "java/lang/IllegalArgumentException" ["java/lang/RuntimeException", "java/lang/Exception"]).filter goodWord)
def wsL_take_r1 : List Cond := [Cond.classLink RL 14 "java/lang/IllegalArgumentException", Cond.methodLink RL 50 yX2_take, Cond.instanceMethod yX2_take, Cond.selects RX2 yX2_take yX2_take, Cond.initialized RX2, Cond.code yX2_take cX2_take 4 (some .int), Cond.fieldLink RX2 102 "FeatureStore" "taken" "I", Cond.methodLink RX2 39 yX2_requireRange, Cond.static yX2_requireRange, Cond.code yX2_requireRange cX2_requireRange 3 none, Cond.classLink RX2 142 "java/lang/IllegalArgumentException", Cond.initialized "java/lang/IllegalArgumentException", Cond.methodLink RX2 105 yX2_rowOrNull, Cond.instanceMethod yX2_rowOrNull, Cond.selects RX2 yX2_rowOrNull yX2_rowOrNull, Cond.code yX2_rowOrNull cX2_rowOrNull 2 (some (.object "FeatureStore$Row")), Cond.fieldLink RX2 44 "FeatureStore" "rowCount" "I", Cond.fieldLink RX2 15 "FeatureStore" "rows" "[LFeatureStore$Row;", Cond.methodLink RX2 108 yX2_takeIn, Cond.instanceMethod yX2_takeIn, Cond.selects RX2 yX2_takeIn yX2_takeIn, Cond.code yX2_takeIn cX2_takeIn 4 none, Cond.fieldLink RX2 154 "FeatureStore$Row" "feature" "I", Cond.fieldLink RX2 155 "FeatureStore$Row" "entity" "I"]
def wsL_take_r2 : List Cond := [Cond.fieldLink RX2 22 "FeatureStore" "onlineCopy" "[LFeatureStore$Row;", Cond.fieldLink RX2 76 "FeatureStore$Row" "event" "I", Cond.methodLink RX2 83 yX2_placeOf, Cond.static yX2_placeOf, Cond.code yX2_placeOf cX2_placeOf 2 (some .int)]
def wsL_take : List Cond := .codeWith yL_take cL_take 4 (some .int) [(0, 6, 9, 14)] :: ((wsL_take_r1 ++ wsL_take_r2) ++ wsX20 ++ wsX00 ++ (vx_atS RX2 146 "java/lang/IllegalArgumentException" ["java/lang/RuntimeException", "java/lang/Exception"]).filter goodWord)
def wsL_online_r1 : List Cond := [Cond.classLink RL 14 "java/lang/IllegalArgumentException", Cond.methodLink RL 53 yX2_online, Cond.instanceMethod yX2_online, Cond.selects RX2 yX2_online yX2_online, Cond.initialized RX2, Cond.code yX2_online cX2_online 3 (some .int), Cond.methodLink RX2 31 yX2_requirePair, Cond.static yX2_requirePair, Cond.code yX2_requirePair cX2_requirePair 2 none, Cond.methodLink RX2 39 yX2_requireRange, Cond.static yX2_requireRange, Cond.code yX2_requireRange cX2_requireRange 3 none, Cond.classLink RX2 142 "java/lang/IllegalArgumentException", Cond.initialized "java/lang/IllegalArgumentException", Cond.methodLink RX2 111 yX2_tell, Cond.instanceMethod yX2_tell, Cond.selects RX2 yX2_tell yX2_tell, Cond.code yX2_tell cX2_tell 3 (some .int), Cond.fieldLink RX2 22 "FeatureStore" "onlineCopy" "[LFeatureStore$Row;", Cond.fieldLink RX2 35 "FeatureStore" "now" "I", Cond.methodLink RX2 83 yX2_placeOf, Cond.static yX2_placeOf, Cond.code yX2_placeOf cX2_placeOf 2 (some .int), Cond.methodLink RX2 156 yX2_numberUnlessExpired]
def wsL_online_r2 : List Cond := [Cond.instanceMethod yX2_numberUnlessExpired, Cond.selects RX2 yX2_numberUnlessExpired yX2_numberUnlessExpired, Cond.code yX2_numberUnlessExpired cX2_numberUnlessExpired 3 (some .int), Cond.fieldLink RX2 76 "FeatureStore$Row" "event" "I", Cond.fieldLink RX2 9 "FeatureStore" "lifetimes" "[I", Cond.fieldLink RX2 154 "FeatureStore$Row" "feature" "I", Cond.fieldLink RX2 61 "FeatureStore$Row" "number" "I"]
def wsL_online : List Cond := .codeWith yL_online cL_online 5 (some .int) [(0, 7, 10, 14)] :: ((wsL_online_r1 ++ wsL_online_r2) ++ wsX20 ++ wsX00 ++ (vx_atS RX2 146 "java/lang/IllegalArgumentException" ["java/lang/RuntimeException", "java/lang/Exception"]).filter goodWord)
def wsL_serve_r1 : List Cond := [Cond.classLink RL 14 "java/lang/IllegalArgumentException", Cond.methodLink RL 56 yX2_serve, Cond.instanceMethod yX2_serve, Cond.selects RX2 yX2_serve yX2_serve, Cond.initialized RX2, Cond.code yX2_serve cX2_serve 4 (some .int), Cond.classLink RX2 47 "java/lang/IllegalStateException", Cond.initialized "java/lang/IllegalStateException", Cond.fieldLink RX2 114 "FeatureStore" "servingCount" "I", Cond.fieldLink RX2 27 "FeatureStore" "servings" "[LFeatureStore$Serving;", Cond.classLink RX2 25 RX1, Cond.instantiable RX1 4, Cond.initialized RX1, Cond.fieldLink RX2 35 "FeatureStore" "now" "I", Cond.methodLink RX2 31 yX2_requirePair, Cond.static yX2_requirePair, Cond.code yX2_requirePair cX2_requirePair 2 none, Cond.methodLink RX2 39 yX2_requireRange, Cond.static yX2_requireRange, Cond.code yX2_requireRange cX2_requireRange 3 none, Cond.classLink RX2 142 "java/lang/IllegalArgumentException", Cond.initialized "java/lang/IllegalArgumentException", Cond.methodLink RX2 111 yX2_tell, Cond.instanceMethod yX2_tell]
def wsL_serve_r2 : List Cond := [Cond.selects RX2 yX2_tell yX2_tell, Cond.code yX2_tell cX2_tell 3 (some .int), Cond.fieldLink RX2 22 "FeatureStore" "onlineCopy" "[LFeatureStore$Row;", Cond.methodLink RX2 83 yX2_placeOf, Cond.static yX2_placeOf, Cond.code yX2_placeOf cX2_placeOf 2 (some .int), Cond.methodLink RX2 156 yX2_numberUnlessExpired, Cond.instanceMethod yX2_numberUnlessExpired, Cond.selects RX2 yX2_numberUnlessExpired yX2_numberUnlessExpired, Cond.code yX2_numberUnlessExpired cX2_numberUnlessExpired 3 (some .int), Cond.fieldLink RX2 76 "FeatureStore$Row" "event" "I", Cond.fieldLink RX2 9 "FeatureStore" "lifetimes" "[I", Cond.fieldLink RX2 154 "FeatureStore$Row" "feature" "I", Cond.fieldLink RX2 61 "FeatureStore$Row" "number" "I", Cond.methodLink RX2 119 yX1_init, Cond.instanceMethod yX1_init, Cond.code yX1_init cX1_init 5 none, Cond.methodLink RX1 1 objectInit, Cond.instanceMethod objectInit, Cond.code objectInit ⟨#[0xb1]⟩ 1 none, Cond.fieldLink RX1 7 "FeatureStore$Serving" "feature" "I", Cond.fieldLink RX1 13 "FeatureStore$Serving" "entity" "I", Cond.fieldLink RX1 16 "FeatureStore$Serving" "time" "I", Cond.fieldLink RX1 19 "FeatureStore$Serving" "row" "I"]
def wsL_serve : List Cond := .codeWith yL_serve cL_serve 5 (some .int) [(0, 7, 10, 14)] :: ((wsL_serve_r1 ++ wsL_serve_r2) ++ wsX20 ++ wsX10 ++ wsX00 ++ (vx_atS RX2 51 "java/lang/IllegalStateException" ["java/lang/RuntimeException", "java/lang/Exception"]).filter goodWord ++ (vx_atS RX2 146 "java/lang/IllegalArgumentException" ["java/lang/RuntimeException", "java/lang/Exception"]).filter goodWord)
def wsL_served : List Cond := .codeWith yL_served cL_served 4 (some .int) [(0, 6, 9, 29)] :: ([.classLink RL 29 "java/lang/IndexOutOfBoundsException", .methodLink RL 59 yX2_served, .instanceMethod yX2_served, .selects RX2 yX2_served yX2_served, .initialized RX2, .code yX2_served cX2_served 2 (some .int), .fieldLink RX2 126 "FeatureStore$Serving" "row" "I", .methodLink RX2 122 yX2_requireServing, .instanceMethod yX2_requireServing, .selects RX2 yX2_requireServing yX2_requireServing, .code yX2_requireServing cX2_requireServing 2 (some (.object "FeatureStore$Serving")), .classLink RX2 147 "java/lang/IndexOutOfBoundsException", .initialized "java/lang/IndexOutOfBoundsException", .fieldLink RX2 114 "FeatureStore" "servingCount" "I", .fieldLink RX2 27 "FeatureStore" "servings" "[LFeatureStore$Serving;"] ++ wsX10 ++ wsX20 ++ (vx_atS RX2 151 "java/lang/IndexOutOfBoundsException" ["java/lang/RuntimeException", "java/lang/Exception"]).filter goodWord)
def wsL_isSound_r1 : List Cond := [Cond.classLink RL 29 "java/lang/IndexOutOfBoundsException", Cond.methodLink RL 62 yX2_isSound, Cond.instanceMethod yX2_isSound, Cond.selects RX2 yX2_isSound yX2_isSound, Cond.initialized RX2, Cond.code yX2_isSound cX2_isSound 3 (some .boolean), Cond.fieldLink RX2 126 "FeatureStore$Serving" "row" "I", Cond.fieldLink RX2 129 "FeatureStore$Serving" "feature" "I", Cond.fieldLink RX2 132 "FeatureStore$Serving" "entity" "I", Cond.fieldLink RX2 135 "FeatureStore$Serving" "time" "I", Cond.methodLink RX2 122 yX2_requireServing, Cond.instanceMethod yX2_requireServing, Cond.selects RX2 yX2_requireServing yX2_requireServing, Cond.code yX2_requireServing cX2_requireServing 2 (some (.object "FeatureStore$Serving")), Cond.classLink RX2 147 "java/lang/IndexOutOfBoundsException", Cond.initialized "java/lang/IndexOutOfBoundsException", Cond.fieldLink RX2 114 "FeatureStore" "servingCount" "I", Cond.fieldLink RX2 27 "FeatureStore" "servings" "[LFeatureStore$Serving;", Cond.methodLink RX2 79 yX2_find, Cond.instanceMethod yX2_find, Cond.selects RX2 yX2_find yX2_find, Cond.code yX2_find cX2_find 6 (some .int), Cond.fieldLink RX2 19 "FeatureStore" "latest" "[LFeatureStore$Row;", Cond.fieldLink RX2 76 "FeatureStore$Row" "event" "I"]
def wsL_isSound_r2 : List Cond := [Cond.fieldLink RX2 73 "FeatureStore$Row" "arrival" "I", Cond.fieldLink RX2 87 "FeatureStore$Row" "older" "LFeatureStore$Row;", Cond.methodLink RX2 83 yX2_placeOf, Cond.static yX2_placeOf, Cond.code yX2_placeOf cX2_placeOf 2 (some .int), Cond.methodLink RX2 156 yX2_numberUnlessExpired, Cond.instanceMethod yX2_numberUnlessExpired, Cond.selects RX2 yX2_numberUnlessExpired yX2_numberUnlessExpired, Cond.code yX2_numberUnlessExpired cX2_numberUnlessExpired 3 (some .int), Cond.fieldLink RX2 9 "FeatureStore" "lifetimes" "[I", Cond.fieldLink RX2 154 "FeatureStore$Row" "feature" "I", Cond.fieldLink RX2 61 "FeatureStore$Row" "number" "I"]
def wsL_isSound : List Cond := .codeWith yL_isSound cL_isSound 4 (some .int) [(0, 6, 9, 29)] :: ((wsL_isSound_r1 ++ wsL_isSound_r2) ++ wsX10 ++ wsX20 ++ wsX00 ++ (vx_atS RX2 151 "java/lang/IndexOutOfBoundsException" ["java/lang/RuntimeException", "java/lang/Exception"]).filter goodWord)
def wsL_find : List Cond := .code yL_find cL_find 11 (some .int) :: ([])
def wsL_copied : List Cond := .code yL_copied cL_copied 6 (some .int) :: ([.methodLink RL 66 yL_find, .static yL_find, .initialized RL, .code yL_find cL_find 11 (some .int)])
def wsL_keeps_r1 : List Cond := [Cond.constant RL 75 (100001), Cond.methodLink RL 72 yL_low, Cond.static yL_low, Cond.initialized RL, Cond.code yL_low cL_low 2 (some .int), Cond.methodLink RL 76 yL_arrive, Cond.static yL_arrive, Cond.codeWith yL_arrive cL_arrive 7 (some .int) [(0, 11, 14, 14)], Cond.classLink RL 14 "java/lang/IllegalArgumentException", Cond.methodLink RL 8 yX2_arrive, Cond.instanceMethod yX2_arrive, Cond.selects RX2 yX2_arrive yX2_arrive, Cond.initialized RX2, Cond.code yX2_arrive cX2_arrive 6 (some .int), Cond.classLink RX2 47 "java/lang/IllegalStateException", Cond.initialized "java/lang/IllegalStateException", Cond.fieldLink RX2 35 "FeatureStore" "now" "I", Cond.constant RX2 43 (100000), Cond.fieldLink RX2 44 "FeatureStore" "rowCount" "I", Cond.classLink RX2 13 RX0, Cond.instantiable RX0 7, Cond.initialized RX0, Cond.fieldLink RX2 15 "FeatureStore" "rows" "[LFeatureStore$Row;", Cond.fieldLink RX2 61 "FeatureStore$Row" "number" "I"]
def wsL_keeps_r2 : List Cond := [Cond.methodLink RX2 31 yX2_requirePair, Cond.static yX2_requirePair, Cond.code yX2_requirePair cX2_requirePair 2 none, Cond.methodLink RX2 39 yX2_requireRange, Cond.static yX2_requireRange, Cond.code yX2_requireRange cX2_requireRange 3 none, Cond.classLink RX2 142 "java/lang/IllegalArgumentException", Cond.initialized "java/lang/IllegalArgumentException", Cond.methodLink RX2 54 yX0_init, Cond.instanceMethod yX0_init, Cond.code yX0_init cX0_init 7 none, Cond.methodLink RX0 1 objectInit, Cond.instanceMethod objectInit, Cond.code objectInit ⟨#[0xb1]⟩ 1 none, Cond.fieldLink RX0 7 "FeatureStore$Row" "number" "I", Cond.fieldLink RX0 13 "FeatureStore$Row" "feature" "I", Cond.fieldLink RX0 16 "FeatureStore$Row" "entity" "I", Cond.fieldLink RX0 19 "FeatureStore$Row" "event" "I", Cond.fieldLink RX0 22 "FeatureStore$Row" "arrival" "I", Cond.fieldLink RX0 25 "FeatureStore$Row" "value" "I", Cond.methodLink RX2 57 yX2_putInChain, Cond.instanceMethod yX2_putInChain, Cond.selects RX2 yX2_putInChain yX2_putInChain, Cond.code yX2_putInChain cX2_putInChain 5 none]
def wsL_keeps_r3 : List Cond := [Cond.fieldLink RX2 154 "FeatureStore$Row" "feature" "I", Cond.fieldLink RX2 155 "FeatureStore$Row" "entity" "I", Cond.fieldLink RX2 19 "FeatureStore" "latest" "[LFeatureStore$Row;", Cond.fieldLink RX2 76 "FeatureStore$Row" "event" "I", Cond.fieldLink RX2 87 "FeatureStore$Row" "older" "LFeatureStore$Row;", Cond.methodLink RX2 83 yX2_placeOf, Cond.static yX2_placeOf, Cond.code yX2_placeOf cX2_placeOf 2 (some .int), Cond.methodLink RL 79 yX2_rows, Cond.instanceMethod yX2_rows, Cond.selects RX2 yX2_rows yX2_rows, Cond.code yX2_rows cX2_rows 1 (some .int), Cond.methodLink RL 83 yL_pass, Cond.static yL_pass, Cond.codeWith yL_pass cL_pass 4 (some .int) [(0, 6, 9, 14), (0, 6, 13, 20)], Cond.classLink RL 20 "java/lang/IllegalStateException", Cond.methodLink RL 16 yX2_pass, Cond.instanceMethod yX2_pass, Cond.selects RX2 yX2_pass yX2_pass, Cond.code yX2_pass cX2_pass 2 (some .int), Cond.methodLink RL 86 yL_setLifetime, Cond.static yL_setLifetime, Cond.codeWith yL_setLifetime cL_setLifetime 5 (some .int) [(0, 7, 10, 14)], Cond.methodLink RL 22 yX2_setLifetime]
def wsL_keeps_r4 : List Cond := [Cond.instanceMethod yX2_setLifetime, Cond.selects RX2 yX2_setLifetime yX2_setLifetime, Cond.code yX2_setLifetime cX2_setLifetime 4 (some .int), Cond.fieldLink RX2 9 "FeatureStore" "lifetimes" "[I", Cond.methodLink RL 89 yL_take, Cond.static yL_take, Cond.codeWith yL_take cL_take 4 (some .int) [(0, 6, 9, 14)], Cond.methodLink RL 50 yX2_take, Cond.instanceMethod yX2_take, Cond.selects RX2 yX2_take yX2_take, Cond.code yX2_take cX2_take 4 (some .int), Cond.fieldLink RX2 102 "FeatureStore" "taken" "I", Cond.methodLink RX2 105 yX2_rowOrNull, Cond.instanceMethod yX2_rowOrNull, Cond.selects RX2 yX2_rowOrNull yX2_rowOrNull, Cond.code yX2_rowOrNull cX2_rowOrNull 2 (some (.object "FeatureStore$Row")), Cond.methodLink RX2 108 yX2_takeIn, Cond.instanceMethod yX2_takeIn, Cond.selects RX2 yX2_takeIn yX2_takeIn, Cond.code yX2_takeIn cX2_takeIn 4 none, Cond.fieldLink RX2 22 "FeatureStore" "onlineCopy" "[LFeatureStore$Row;", Cond.methodLink RL 91 yL_serve, Cond.static yL_serve, Cond.codeWith yL_serve cL_serve 5 (some .int) [(0, 7, 10, 14)]]
def wsL_keeps_r5 : List Cond := [Cond.methodLink RL 56 yX2_serve, Cond.instanceMethod yX2_serve, Cond.selects RX2 yX2_serve yX2_serve, Cond.code yX2_serve cX2_serve 4 (some .int), Cond.fieldLink RX2 114 "FeatureStore" "servingCount" "I", Cond.fieldLink RX2 27 "FeatureStore" "servings" "[LFeatureStore$Serving;", Cond.classLink RX2 25 RX1, Cond.instantiable RX1 4, Cond.initialized RX1, Cond.methodLink RX2 111 yX2_tell, Cond.instanceMethod yX2_tell, Cond.selects RX2 yX2_tell yX2_tell, Cond.code yX2_tell cX2_tell 3 (some .int), Cond.methodLink RX2 156 yX2_numberUnlessExpired, Cond.instanceMethod yX2_numberUnlessExpired, Cond.selects RX2 yX2_numberUnlessExpired yX2_numberUnlessExpired, Cond.code yX2_numberUnlessExpired cX2_numberUnlessExpired 3 (some .int), Cond.methodLink RX2 119 yX1_init, Cond.instanceMethod yX1_init, Cond.code yX1_init cX1_init 5 none, Cond.methodLink RX1 1 objectInit, Cond.fieldLink RX1 7 "FeatureStore$Serving" "feature" "I", Cond.fieldLink RX1 13 "FeatureStore$Serving" "entity" "I", Cond.fieldLink RX1 16 "FeatureStore$Serving" "time" "I"]
def wsL_keeps_r6 : List Cond := [Cond.fieldLink RX1 19 "FeatureStore$Serving" "row" "I", Cond.methodLink RL 93 yX2_servings, Cond.instanceMethod yX2_servings, Cond.selects RX2 yX2_servings yX2_servings, Cond.code yX2_servings cX2_servings 1 (some .int), Cond.methodLink RL 96 yL_copied, Cond.static yL_copied, Cond.code yL_copied cL_copied 6 (some .int), Cond.methodLink RL 66 yL_find, Cond.static yL_find, Cond.code yL_find cL_find 11 (some .int)]
def wsL_keeps : List Cond := .code yL_keeps cL_keeps 17 (some .boolean) :: ((wsL_keeps_r1 ++ (wsL_keeps_r2 ++ (wsL_keeps_r3 ++ (wsL_keeps_r4 ++ (wsL_keeps_r5 ++ wsL_keeps_r6))))) ++ wsX20 ++ wsX00 ++ wsX10 ++ (vx_atS RX2 51 "java/lang/IllegalStateException" ["java/lang/RuntimeException", "java/lang/Exception"]).filter goodWord ++ (vx_atS RX2 146 "java/lang/IllegalArgumentException" ["java/lang/RuntimeException", "java/lang/Exception"]).filter goodWord)
def wsL_areTiles_r1 : List Cond := [Cond.methodLink RL 100 yL_window, Cond.static yL_window, Cond.initialized RL, Cond.codeWith yL_window cL_window 7 (some .int) [(0, 11, 14, 14)], Cond.classLink RL 14 "java/lang/IllegalArgumentException", Cond.methodLink RL 37 yX2_window, Cond.instanceMethod yX2_window, Cond.selects RX2 yX2_window yX2_window, Cond.initialized RX2, Cond.code yX2_window cX2_window 7 (some .int), Cond.fieldLink RX2 19 "FeatureStore" "latest" "[LFeatureStore$Row;", Cond.fieldLink RX2 76 "FeatureStore$Row" "event" "I", Cond.fieldLink RX2 70 "FeatureStore$Row" "value" "I", Cond.fieldLink RX2 87 "FeatureStore$Row" "older" "LFeatureStore$Row;", Cond.methodLink RX2 31 yX2_requirePair, Cond.static yX2_requirePair, Cond.code yX2_requirePair cX2_requirePair 2 none, Cond.methodLink RX2 39 yX2_requireRange, Cond.static yX2_requireRange, Cond.code yX2_requireRange cX2_requireRange 3 none, Cond.classLink RX2 142 "java/lang/IllegalArgumentException", Cond.initialized "java/lang/IllegalArgumentException", Cond.methodLink RX2 83 yX2_placeOf, Cond.static yX2_placeOf]
def wsL_areTiles_r2 : List Cond := [Cond.code yX2_placeOf cX2_placeOf 2 (some .int), Cond.methodLink RL 102 yL_greatestTile, Cond.static yL_greatestTile, Cond.codeWith yL_greatestTile cL_greatestTile 6 (some .int) [(0, 9, 12, 14)], Cond.methodLink RL 40 yX2_greatestTile, Cond.instanceMethod yX2_greatestTile, Cond.selects RX2 yX2_greatestTile yX2_greatestTile, Cond.code yX2_greatestTile cX2_greatestTile 9 (some .int), Cond.methodLink RX2 91 Lib.Math.max.name, Cond.static Lib.Math.max.name, Cond.initialized "java/lang/Math", Cond.code Lib.Math.max.name Lib.Math.max.code 2 (some .int), Cond.methodLink RL 105 yL_tiles, Cond.static yL_tiles, Cond.codeWith yL_tiles cL_tiles 6 (some .int) [(0, 9, 12, 14)], Cond.methodLink RL 44 yX2_tiles, Cond.instanceMethod yX2_tiles, Cond.selects RX2 yX2_tiles yX2_tiles, Cond.code yX2_tiles cX2_tiles 8 (some .int)]
def wsL_areTiles : List Cond := .code yL_areTiles cL_areTiles 17 (some .boolean) :: ((wsL_areTiles_r1 ++ wsL_areTiles_r2) ++ wsX20 ++ wsX00 ++ (vx_atS RX2 146 "java/lang/IllegalArgumentException" ["java/lang/RuntimeException", "java/lang/Exception"]).filter goodWord)
def wsL_isTold_r1 : List Cond := [Cond.methodLink RL 107 yL_value, Cond.static yL_value, Cond.initialized RL, Cond.codeWith yL_value cL_value 4 (some .int) [(0, 6, 9, 29)], Cond.classLink RL 29 "java/lang/IndexOutOfBoundsException", Cond.methodLink RL 26 yX2_value, Cond.instanceMethod yX2_value, Cond.selects RX2 yX2_value yX2_value, Cond.initialized RX2, Cond.code yX2_value cX2_value 2 (some .int), Cond.fieldLink RX2 70 "FeatureStore$Row" "value" "I", Cond.methodLink RX2 66 yX2_requireRow, Cond.instanceMethod yX2_requireRow, Cond.selects RX2 yX2_requireRow yX2_requireRow, Cond.code yX2_requireRow cX2_requireRow 3 (some (.object "FeatureStore$Row")), Cond.classLink RX2 147 "java/lang/IndexOutOfBoundsException", Cond.initialized "java/lang/IndexOutOfBoundsException", Cond.methodLink RX2 105 yX2_rowOrNull, Cond.instanceMethod yX2_rowOrNull, Cond.selects RX2 yX2_rowOrNull yX2_rowOrNull, Cond.code yX2_rowOrNull cX2_rowOrNull 2 (some (.object "FeatureStore$Row")), Cond.fieldLink RX2 44 "FeatureStore" "rowCount" "I", Cond.fieldLink RX2 15 "FeatureStore" "rows" "[LFeatureStore$Row;", Cond.methodLink RL 109 yL_late]
def wsL_isTold_r2 : List Cond := [Cond.static yL_late, Cond.codeWith yL_late cL_late 4 (some .int) [(0, 6, 9, 29)], Cond.methodLink RL 31 yX2_late, Cond.instanceMethod yX2_late, Cond.selects RX2 yX2_late yX2_late, Cond.code yX2_late cX2_late 3 (some .int), Cond.fieldLink RX2 73 "FeatureStore$Row" "arrival" "I", Cond.fieldLink RX2 76 "FeatureStore$Row" "event" "I", Cond.methodLink RL 66 yL_find, Cond.static yL_find, Cond.code yL_find cL_find 11 (some .int), Cond.methodLink RL 111 yL_served, Cond.static yL_served, Cond.codeWith yL_served cL_served 4 (some .int) [(0, 6, 9, 29)], Cond.methodLink RL 59 yX2_served, Cond.instanceMethod yX2_served, Cond.selects RX2 yX2_served yX2_served, Cond.code yX2_served cX2_served 2 (some .int), Cond.fieldLink RX2 126 "FeatureStore$Serving" "row" "I", Cond.methodLink RX2 122 yX2_requireServing, Cond.instanceMethod yX2_requireServing, Cond.selects RX2 yX2_requireServing yX2_requireServing, Cond.code yX2_requireServing cX2_requireServing 2 (some (.object "FeatureStore$Serving")), Cond.fieldLink RX2 114 "FeatureStore" "servingCount" "I"]
def wsL_isTold_r3 : List Cond := [Cond.fieldLink RX2 27 "FeatureStore" "servings" "[LFeatureStore$Serving;", Cond.methodLink RL 113 yL_isSound, Cond.static yL_isSound, Cond.codeWith yL_isSound cL_isSound 4 (some .int) [(0, 6, 9, 29)], Cond.methodLink RL 62 yX2_isSound, Cond.instanceMethod yX2_isSound, Cond.selects RX2 yX2_isSound yX2_isSound, Cond.code yX2_isSound cX2_isSound 3 (some .boolean), Cond.fieldLink RX2 129 "FeatureStore$Serving" "feature" "I", Cond.fieldLink RX2 132 "FeatureStore$Serving" "entity" "I", Cond.fieldLink RX2 135 "FeatureStore$Serving" "time" "I", Cond.methodLink RX2 79 yX2_find, Cond.instanceMethod yX2_find, Cond.selects RX2 yX2_find yX2_find, Cond.code yX2_find cX2_find 6 (some .int), Cond.fieldLink RX2 19 "FeatureStore" "latest" "[LFeatureStore$Row;", Cond.fieldLink RX2 87 "FeatureStore$Row" "older" "LFeatureStore$Row;", Cond.methodLink RX2 83 yX2_placeOf, Cond.static yX2_placeOf, Cond.code yX2_placeOf cX2_placeOf 2 (some .int), Cond.methodLink RX2 156 yX2_numberUnlessExpired, Cond.instanceMethod yX2_numberUnlessExpired, Cond.selects RX2 yX2_numberUnlessExpired yX2_numberUnlessExpired, Cond.code yX2_numberUnlessExpired cX2_numberUnlessExpired 3 (some .int)]
def wsL_isTold_r4 : List Cond := [Cond.fieldLink RX2 9 "FeatureStore" "lifetimes" "[I", Cond.fieldLink RX2 154 "FeatureStore$Row" "feature" "I", Cond.fieldLink RX2 61 "FeatureStore$Row" "number" "I", Cond.methodLink RL 96 yL_copied, Cond.static yL_copied, Cond.code yL_copied cL_copied 6 (some .int), Cond.methodLink RL 115 yL_online, Cond.static yL_online, Cond.codeWith yL_online cL_online 5 (some .int) [(0, 7, 10, 14)], Cond.classLink RL 14 "java/lang/IllegalArgumentException", Cond.methodLink RL 53 yX2_online, Cond.instanceMethod yX2_online, Cond.selects RX2 yX2_online yX2_online, Cond.code yX2_online cX2_online 3 (some .int), Cond.methodLink RX2 31 yX2_requirePair, Cond.static yX2_requirePair, Cond.code yX2_requirePair cX2_requirePair 2 none, Cond.methodLink RX2 39 yX2_requireRange, Cond.static yX2_requireRange, Cond.code yX2_requireRange cX2_requireRange 3 none, Cond.classLink RX2 142 "java/lang/IllegalArgumentException", Cond.initialized "java/lang/IllegalArgumentException", Cond.methodLink RX2 111 yX2_tell, Cond.instanceMethod yX2_tell]
def wsL_isTold_r5 : List Cond := [Cond.selects RX2 yX2_tell yX2_tell, Cond.code yX2_tell cX2_tell 3 (some .int), Cond.fieldLink RX2 22 "FeatureStore" "onlineCopy" "[LFeatureStore$Row;", Cond.fieldLink RX2 35 "FeatureStore" "now" "I", Cond.methodLink RL 72 yL_low, Cond.static yL_low, Cond.code yL_low cL_low 2 (some .int), Cond.methodLink RL 117 yL_join, Cond.static yL_join, Cond.codeWith yL_join cL_join 7 (some .int) [(0, 11, 14, 14)], Cond.methodLink RL 34 yX2_join, Cond.instanceMethod yX2_join, Cond.selects RX2 yX2_join yX2_join, Cond.code yX2_join cX2_join 5 (some .int), Cond.methodLink RL 119 yL_revised, Cond.static yL_revised, Cond.codeWith yL_revised cL_revised 6 (some .int) [(0, 9, 12, 14)], Cond.methodLink RL 47 yX2_revised, Cond.instanceMethod yX2_revised, Cond.selects RX2 yX2_revised yX2_revised, Cond.code yX2_revised cX2_revised 9 (some .int), Cond.methodLink RX2 96 Lib.Math.min.name, Cond.static Lib.Math.min.name, Cond.initialized "java/lang/Math"]
def wsL_isTold_r6 : List Cond := [Cond.code Lib.Math.min.name Lib.Math.min.code 2 (some .int), Cond.methodLink RX2 99 yX2_multiplesBelow, Cond.static yX2_multiplesBelow, Cond.code yX2_multiplesBelow cX2_multiplesBelow 2 (some .int), Cond.methodLink RL 121 yL_areTiles, Cond.static yL_areTiles, Cond.code yL_areTiles cL_areTiles 17 (some .boolean), Cond.methodLink RL 100 yL_window, Cond.static yL_window, Cond.codeWith yL_window cL_window 7 (some .int) [(0, 11, 14, 14)], Cond.methodLink RL 37 yX2_window, Cond.instanceMethod yX2_window, Cond.selects RX2 yX2_window yX2_window, Cond.code yX2_window cX2_window 7 (some .int), Cond.methodLink RL 102 yL_greatestTile, Cond.static yL_greatestTile, Cond.codeWith yL_greatestTile cL_greatestTile 6 (some .int) [(0, 9, 12, 14)], Cond.methodLink RL 40 yX2_greatestTile, Cond.instanceMethod yX2_greatestTile, Cond.selects RX2 yX2_greatestTile yX2_greatestTile, Cond.code yX2_greatestTile cX2_greatestTile 9 (some .int), Cond.methodLink RX2 91 Lib.Math.max.name, Cond.static Lib.Math.max.name, Cond.code Lib.Math.max.name Lib.Math.max.code 2 (some .int)]
def wsL_isTold_r7 : List Cond := [Cond.methodLink RL 105 yL_tiles, Cond.static yL_tiles, Cond.codeWith yL_tiles cL_tiles 6 (some .int) [(0, 9, 12, 14)], Cond.methodLink RL 44 yX2_tiles, Cond.instanceMethod yX2_tiles, Cond.selects RX2 yX2_tiles yX2_tiles, Cond.code yX2_tiles cX2_tiles 8 (some .int), Cond.methodLink RL 125 yX2_now, Cond.instanceMethod yX2_now, Cond.selects RX2 yX2_now yX2_now, Cond.code yX2_now cX2_now 1 (some .int), Cond.methodLink RL 79 yX2_rows, Cond.instanceMethod yX2_rows, Cond.selects RX2 yX2_rows yX2_rows, Cond.code yX2_rows cX2_rows 1 (some .int), Cond.methodLink RL 128 yX2_lag, Cond.instanceMethod yX2_lag, Cond.selects RX2 yX2_lag yX2_lag, Cond.code yX2_lag cX2_lag 1 (some .int), Cond.fieldLink RX2 102 "FeatureStore" "taken" "I", Cond.methodLink RL 131 yX2_skew, Cond.instanceMethod yX2_skew, Cond.selects RX2 yX2_skew yX2_skew, Cond.code yX2_skew cX2_skew 4 (some .int)]
def wsL_isTold_r8 : List Cond := [Cond.methodLink RL 93 yX2_servings, Cond.instanceMethod yX2_servings, Cond.selects RX2 yX2_servings yX2_servings, Cond.code yX2_servings cX2_servings 1 (some .int), Cond.methodLink RL 134 yX2_unsound, Cond.instanceMethod yX2_unsound, Cond.selects RX2 yX2_unsound yX2_unsound, Cond.code yX2_unsound cX2_unsound 3 (some .int), Cond.methodLink RX2 138 yX2_isSound]
def wsL_isTold : List Cond := .code yL_isTold cL_isTold 21 (some .boolean) :: ((wsL_isTold_r1 ++ (wsL_isTold_r2 ++ (wsL_isTold_r3 ++ (wsL_isTold_r4 ++ (wsL_isTold_r5 ++ (wsL_isTold_r6 ++ (wsL_isTold_r7 ++ wsL_isTold_r8))))))) ++ wsX00 ++ wsX20 ++ wsX10 ++ (vx_atS RX2 151 "java/lang/IndexOutOfBoundsException" ["java/lang/RuntimeException", "java/lang/Exception"]).filter goodWord ++ (vx_atS RX2 146 "java/lang/IllegalArgumentException" ["java/lang/RuntimeException", "java/lang/Exception"]).filter goodWord)
def wsL_law0_r1_a : List Cond := [Cond.classLink RL 9 RX2, Cond.instantiable RX2 9, Cond.initialized RX2, Cond.arrayClass .int, Cond.methodLink RL 137 yX2_init, Cond.instanceMethod yX2_init, Cond.code yX2_init cX2_init 2 none, Cond.methodLink RX2 1 objectInit, Cond.instanceMethod objectInit, Cond.code objectInit ⟨#[0xb1]⟩ 1 none, Cond.fieldLink RX2 9 "FeatureStore" "lifetimes" "[I", Cond.classLink RX2 13 RX0, Cond.fieldLink RX2 15 "FeatureStore" "rows" "[LFeatureStore$Row;", Cond.fieldLink RX2 19 "FeatureStore" "latest" "[LFeatureStore$Row;", Cond.fieldLink RX2 22 "FeatureStore" "onlineCopy" "[LFeatureStore$Row;", Cond.classLink RX2 25 RX1, Cond.fieldLink RX2 27 "FeatureStore" "servings" "[LFeatureStore$Serving;", Cond.methodLink RL 138 yL_isTold, Cond.static yL_isTold, Cond.initialized RL]
def wsL_law0_r1_b : List Cond := [Cond.code yL_isTold cL_isTold 21 (some .boolean)]
def wsL_law0_r1_c : List Cond := [Cond.methodLink RL 107 yL_value, Cond.static yL_value, Cond.codeWith yL_value cL_value 4 (some .int) [(0, 6, 9, 29)]]
def wsL_law0_r1 : List Cond := wsL_law0_r1_a ++ (wsL_law0_r1_b ++ wsL_law0_r1_c)
def wsL_law0_r2 : List Cond := [Cond.classLink RL 29 "java/lang/IndexOutOfBoundsException", Cond.methodLink RL 26 yX2_value, Cond.instanceMethod yX2_value, Cond.selects RX2 yX2_value yX2_value, Cond.code yX2_value cX2_value 2 (some .int), Cond.fieldLink RX2 70 "FeatureStore$Row" "value" "I", Cond.methodLink RX2 66 yX2_requireRow, Cond.instanceMethod yX2_requireRow, Cond.selects RX2 yX2_requireRow yX2_requireRow, Cond.code yX2_requireRow cX2_requireRow 3 (some (.object "FeatureStore$Row")), Cond.classLink RX2 147 "java/lang/IndexOutOfBoundsException", Cond.initialized "java/lang/IndexOutOfBoundsException", Cond.methodLink RX2 105 yX2_rowOrNull, Cond.instanceMethod yX2_rowOrNull, Cond.selects RX2 yX2_rowOrNull yX2_rowOrNull, Cond.code yX2_rowOrNull cX2_rowOrNull 2 (some (.object "FeatureStore$Row")), Cond.fieldLink RX2 44 "FeatureStore" "rowCount" "I", Cond.methodLink RL 109 yL_late, Cond.static yL_late, Cond.codeWith yL_late cL_late 4 (some .int) [(0, 6, 9, 29)], Cond.methodLink RL 31 yX2_late, Cond.instanceMethod yX2_late, Cond.selects RX2 yX2_late yX2_late, Cond.code yX2_late cX2_late 3 (some .int)]
def wsL_law0_r3 : List Cond := [Cond.fieldLink RX2 73 "FeatureStore$Row" "arrival" "I", Cond.fieldLink RX2 76 "FeatureStore$Row" "event" "I", Cond.methodLink RL 66 yL_find, Cond.static yL_find, Cond.code yL_find cL_find 11 (some .int), Cond.methodLink RL 111 yL_served, Cond.static yL_served, Cond.codeWith yL_served cL_served 4 (some .int) [(0, 6, 9, 29)], Cond.methodLink RL 59 yX2_served, Cond.instanceMethod yX2_served, Cond.selects RX2 yX2_served yX2_served, Cond.code yX2_served cX2_served 2 (some .int), Cond.fieldLink RX2 126 "FeatureStore$Serving" "row" "I", Cond.methodLink RX2 122 yX2_requireServing, Cond.instanceMethod yX2_requireServing, Cond.selects RX2 yX2_requireServing yX2_requireServing, Cond.code yX2_requireServing cX2_requireServing 2 (some (.object "FeatureStore$Serving")), Cond.fieldLink RX2 114 "FeatureStore" "servingCount" "I", Cond.methodLink RL 113 yL_isSound, Cond.static yL_isSound, Cond.codeWith yL_isSound cL_isSound 4 (some .int) [(0, 6, 9, 29)], Cond.methodLink RL 62 yX2_isSound, Cond.instanceMethod yX2_isSound, Cond.selects RX2 yX2_isSound yX2_isSound]
def wsL_law0_r4 : List Cond := [Cond.code yX2_isSound cX2_isSound 3 (some .boolean), Cond.fieldLink RX2 129 "FeatureStore$Serving" "feature" "I", Cond.fieldLink RX2 132 "FeatureStore$Serving" "entity" "I", Cond.fieldLink RX2 135 "FeatureStore$Serving" "time" "I", Cond.methodLink RX2 79 yX2_find, Cond.instanceMethod yX2_find, Cond.selects RX2 yX2_find yX2_find, Cond.code yX2_find cX2_find 6 (some .int), Cond.fieldLink RX2 87 "FeatureStore$Row" "older" "LFeatureStore$Row;", Cond.methodLink RX2 83 yX2_placeOf, Cond.static yX2_placeOf, Cond.code yX2_placeOf cX2_placeOf 2 (some .int), Cond.methodLink RX2 156 yX2_numberUnlessExpired, Cond.instanceMethod yX2_numberUnlessExpired, Cond.selects RX2 yX2_numberUnlessExpired yX2_numberUnlessExpired, Cond.code yX2_numberUnlessExpired cX2_numberUnlessExpired 3 (some .int), Cond.fieldLink RX2 154 "FeatureStore$Row" "feature" "I", Cond.fieldLink RX2 61 "FeatureStore$Row" "number" "I", Cond.methodLink RL 96 yL_copied, Cond.static yL_copied, Cond.code yL_copied cL_copied 6 (some .int), Cond.methodLink RL 115 yL_online, Cond.static yL_online, Cond.codeWith yL_online cL_online 5 (some .int) [(0, 7, 10, 14)]]
def wsL_law0_r5 : List Cond := [Cond.classLink RL 14 "java/lang/IllegalArgumentException", Cond.methodLink RL 53 yX2_online, Cond.instanceMethod yX2_online, Cond.selects RX2 yX2_online yX2_online, Cond.code yX2_online cX2_online 3 (some .int), Cond.methodLink RX2 31 yX2_requirePair, Cond.static yX2_requirePair, Cond.code yX2_requirePair cX2_requirePair 2 none, Cond.methodLink RX2 39 yX2_requireRange, Cond.static yX2_requireRange, Cond.code yX2_requireRange cX2_requireRange 3 none, Cond.classLink RX2 142 "java/lang/IllegalArgumentException", Cond.initialized "java/lang/IllegalArgumentException", Cond.methodLink RX2 111 yX2_tell, Cond.instanceMethod yX2_tell, Cond.selects RX2 yX2_tell yX2_tell, Cond.code yX2_tell cX2_tell 3 (some .int), Cond.fieldLink RX2 35 "FeatureStore" "now" "I", Cond.methodLink RL 72 yL_low, Cond.static yL_low, Cond.code yL_low cL_low 2 (some .int), Cond.methodLink RL 117 yL_join, Cond.static yL_join, Cond.codeWith yL_join cL_join 7 (some .int) [(0, 11, 14, 14)]]
def wsL_law0_r6 : List Cond := [Cond.methodLink RL 34 yX2_join, Cond.instanceMethod yX2_join, Cond.selects RX2 yX2_join yX2_join, Cond.code yX2_join cX2_join 5 (some .int), Cond.methodLink RL 119 yL_revised, Cond.static yL_revised, Cond.codeWith yL_revised cL_revised 6 (some .int) [(0, 9, 12, 14)], Cond.methodLink RL 47 yX2_revised, Cond.instanceMethod yX2_revised, Cond.selects RX2 yX2_revised yX2_revised, Cond.code yX2_revised cX2_revised 9 (some .int), Cond.methodLink RX2 96 Lib.Math.min.name, Cond.static Lib.Math.min.name, Cond.initialized "java/lang/Math", Cond.code Lib.Math.min.name Lib.Math.min.code 2 (some .int), Cond.methodLink RX2 99 yX2_multiplesBelow, Cond.static yX2_multiplesBelow, Cond.code yX2_multiplesBelow cX2_multiplesBelow 2 (some .int), Cond.methodLink RL 121 yL_areTiles, Cond.static yL_areTiles, Cond.code yL_areTiles cL_areTiles 17 (some .boolean), Cond.methodLink RL 100 yL_window, Cond.static yL_window, Cond.codeWith yL_window cL_window 7 (some .int) [(0, 11, 14, 14)]]
def wsL_law0_r7 : List Cond := [Cond.methodLink RL 37 yX2_window, Cond.instanceMethod yX2_window, Cond.selects RX2 yX2_window yX2_window, Cond.code yX2_window cX2_window 7 (some .int), Cond.methodLink RL 102 yL_greatestTile, Cond.static yL_greatestTile, Cond.codeWith yL_greatestTile cL_greatestTile 6 (some .int) [(0, 9, 12, 14)], Cond.methodLink RL 40 yX2_greatestTile, Cond.instanceMethod yX2_greatestTile, Cond.selects RX2 yX2_greatestTile yX2_greatestTile, Cond.code yX2_greatestTile cX2_greatestTile 9 (some .int), Cond.methodLink RX2 91 Lib.Math.max.name, Cond.static Lib.Math.max.name, Cond.code Lib.Math.max.name Lib.Math.max.code 2 (some .int), Cond.methodLink RL 105 yL_tiles, Cond.static yL_tiles, Cond.codeWith yL_tiles cL_tiles 6 (some .int) [(0, 9, 12, 14)], Cond.methodLink RL 44 yX2_tiles, Cond.instanceMethod yX2_tiles, Cond.selects RX2 yX2_tiles yX2_tiles, Cond.code yX2_tiles cX2_tiles 8 (some .int), Cond.methodLink RL 125 yX2_now, Cond.instanceMethod yX2_now, Cond.selects RX2 yX2_now yX2_now]
def wsL_law0_r8 : List Cond := [Cond.code yX2_now cX2_now 1 (some .int), Cond.methodLink RL 79 yX2_rows, Cond.instanceMethod yX2_rows, Cond.selects RX2 yX2_rows yX2_rows, Cond.code yX2_rows cX2_rows 1 (some .int), Cond.methodLink RL 128 yX2_lag, Cond.instanceMethod yX2_lag, Cond.selects RX2 yX2_lag yX2_lag, Cond.code yX2_lag cX2_lag 1 (some .int), Cond.fieldLink RX2 102 "FeatureStore" "taken" "I", Cond.methodLink RL 131 yX2_skew, Cond.instanceMethod yX2_skew, Cond.selects RX2 yX2_skew yX2_skew, Cond.code yX2_skew cX2_skew 4 (some .int), Cond.methodLink RL 93 yX2_servings, Cond.instanceMethod yX2_servings, Cond.selects RX2 yX2_servings yX2_servings, Cond.code yX2_servings cX2_servings 1 (some .int), Cond.methodLink RL 134 yX2_unsound, Cond.instanceMethod yX2_unsound, Cond.selects RX2 yX2_unsound yX2_unsound, Cond.code yX2_unsound cX2_unsound 3 (some .int), Cond.methodLink RX2 138 yX2_isSound, Cond.methodLink RL 142 yL_cell]
def wsL_law0_r9_a : List Cond := [Cond.static yL_cell, Cond.code yL_cell cL_cell 2 (some .int), Cond.constant RL 7 (1237309411), Cond.methodLink RL 146 yL_keeps, Cond.static yL_keeps]
def wsL_law0_r9_b : List Cond := [Cond.code yL_keeps cL_keeps 17 (some .boolean)]
def wsL_law0_r9_c : List Cond := [Cond.constant RL 75 (100001), Cond.methodLink RL 76 yL_arrive, Cond.static yL_arrive, Cond.codeWith yL_arrive cL_arrive 7 (some .int) [(0, 11, 14, 14)], Cond.methodLink RL 8 yX2_arrive, Cond.instanceMethod yX2_arrive, Cond.selects RX2 yX2_arrive yX2_arrive, Cond.code yX2_arrive cX2_arrive 6 (some .int), Cond.classLink RX2 47 "java/lang/IllegalStateException", Cond.initialized "java/lang/IllegalStateException", Cond.constant RX2 43 (100000), Cond.instantiable RX0 7, Cond.initialized RX0, Cond.methodLink RX2 54 yX0_init, Cond.instanceMethod yX0_init, Cond.code yX0_init cX0_init 7 none, Cond.methodLink RX0 1 objectInit, Cond.fieldLink RX0 7 "FeatureStore$Row" "number" "I"]
def wsL_law0_r9 : List Cond := wsL_law0_r9_a ++ (wsL_law0_r9_b ++ wsL_law0_r9_c)
def wsL_law0_r10 : List Cond := [Cond.fieldLink RX0 13 "FeatureStore$Row" "feature" "I", Cond.fieldLink RX0 16 "FeatureStore$Row" "entity" "I", Cond.fieldLink RX0 19 "FeatureStore$Row" "event" "I", Cond.fieldLink RX0 22 "FeatureStore$Row" "arrival" "I", Cond.fieldLink RX0 25 "FeatureStore$Row" "value" "I", Cond.methodLink RX2 57 yX2_putInChain, Cond.instanceMethod yX2_putInChain, Cond.selects RX2 yX2_putInChain yX2_putInChain, Cond.code yX2_putInChain cX2_putInChain 5 none, Cond.fieldLink RX2 155 "FeatureStore$Row" "entity" "I", Cond.methodLink RL 83 yL_pass, Cond.static yL_pass, Cond.codeWith yL_pass cL_pass 4 (some .int) [(0, 6, 9, 14), (0, 6, 13, 20)], Cond.classLink RL 20 "java/lang/IllegalStateException", Cond.methodLink RL 16 yX2_pass, Cond.instanceMethod yX2_pass, Cond.selects RX2 yX2_pass yX2_pass, Cond.code yX2_pass cX2_pass 2 (some .int), Cond.methodLink RL 86 yL_setLifetime, Cond.static yL_setLifetime, Cond.codeWith yL_setLifetime cL_setLifetime 5 (some .int) [(0, 7, 10, 14)], Cond.methodLink RL 22 yX2_setLifetime, Cond.instanceMethod yX2_setLifetime, Cond.selects RX2 yX2_setLifetime yX2_setLifetime]
def wsL_law0_r11 : List Cond := [Cond.code yX2_setLifetime cX2_setLifetime 4 (some .int), Cond.methodLink RL 89 yL_take, Cond.static yL_take, Cond.codeWith yL_take cL_take 4 (some .int) [(0, 6, 9, 14)], Cond.methodLink RL 50 yX2_take, Cond.instanceMethod yX2_take, Cond.selects RX2 yX2_take yX2_take, Cond.code yX2_take cX2_take 4 (some .int), Cond.methodLink RX2 108 yX2_takeIn, Cond.instanceMethod yX2_takeIn, Cond.selects RX2 yX2_takeIn yX2_takeIn, Cond.code yX2_takeIn cX2_takeIn 4 none, Cond.methodLink RL 91 yL_serve, Cond.static yL_serve, Cond.codeWith yL_serve cL_serve 5 (some .int) [(0, 7, 10, 14)], Cond.methodLink RL 56 yX2_serve, Cond.instanceMethod yX2_serve, Cond.selects RX2 yX2_serve yX2_serve, Cond.code yX2_serve cX2_serve 4 (some .int), Cond.instantiable RX1 4, Cond.initialized RX1, Cond.methodLink RX2 119 yX1_init, Cond.instanceMethod yX1_init, Cond.code yX1_init cX1_init 5 none]
def wsL_law0_r12 : List Cond := [Cond.methodLink RX1 1 objectInit, Cond.fieldLink RX1 7 "FeatureStore$Serving" "feature" "I", Cond.fieldLink RX1 13 "FeatureStore$Serving" "entity" "I", Cond.fieldLink RX1 16 "FeatureStore$Serving" "time" "I", Cond.fieldLink RX1 19 "FeatureStore$Serving" "row" "I"]
def wsL_law0 : List Cond := (wsL_law0_r1 ++ (wsL_law0_r2 ++ (wsL_law0_r3 ++ (wsL_law0_r4 ++ (wsL_law0_r5 ++ (wsL_law0_r6 ++ (wsL_law0_r7 ++ (wsL_law0_r8 ++ (wsL_law0_r9 ++ (wsL_law0_r10 ++ (wsL_law0_r11 ++ wsL_law0_r12))))))))))) ++ wsX20 ++ wsX00 ++ wsX10 ++ ([] : List Cond)
def wsL_law : List Cond := wsL_law0 ++ (vx_atS RX2 151 "java/lang/IndexOutOfBoundsException" ["java/lang/RuntimeException", "java/lang/Exception"]).filter goodWord ++ (vx_atS RX2 146 "java/lang/IllegalArgumentException" ["java/lang/RuntimeException", "java/lang/Exception"]).filter goodWord ++ (vx_atS RX2 51 "java/lang/IllegalStateException" ["java/lang/RuntimeException", "java/lang/Exception"]).filter goodWord
theorem inX3 : ∀ w ∈ wsX30, w ∈ lw_tbl := by decide +kernel
theorem inJ9 : ∀ w ∈ wsJ90, w ∈ lw_tbl := by decide +kernel
theorem inJ0 : ∀ w ∈ wsJ00, w ∈ lw_tbl := by decide +kernel
theorem dX0_init_0 : decode cX0_init 0 = .ok (.aload_n 0, 1) := by decide +kernel
theorem dX0_init_1 : decode cX0_init 1 = .ok (.invokespecial 1, 3) := by decide +kernel
theorem dX0_init_4 : decode cX0_init 4 = .ok (.aload_n 0, 1) := by decide +kernel
theorem dX0_init_5 : decode cX0_init 5 = .ok (.iload_n 1, 1) := by decide +kernel
theorem dX0_init_6 : decode cX0_init 6 = .ok (.putfield 7, 3) := by decide +kernel
theorem dX0_init_9 : decode cX0_init 9 = .ok (.aload_n 0, 1) := by decide +kernel
theorem dX0_init_10 : decode cX0_init 10 = .ok (.iload_n 2, 1) := by decide +kernel
theorem dX0_init_11 : decode cX0_init 11 = .ok (.putfield 13, 3) := by decide +kernel
theorem dX0_init_14 : decode cX0_init 14 = .ok (.aload_n 0, 1) := by decide +kernel
theorem dX0_init_15 : decode cX0_init 15 = .ok (.iload_n 3, 1) := by decide +kernel
theorem dX0_init_16 : decode cX0_init 16 = .ok (.putfield 16, 3) := by decide +kernel
theorem dX0_init_19 : decode cX0_init 19 = .ok (.aload_n 0, 1) := by decide +kernel
theorem dX0_init_20 : decode cX0_init 20 = .ok (.iload 4, 2) := by decide +kernel
theorem dX0_init_22 : decode cX0_init 22 = .ok (.putfield 19, 3) := by decide +kernel
theorem dX0_init_25 : decode cX0_init 25 = .ok (.aload_n 0, 1) := by decide +kernel
theorem dX0_init_26 : decode cX0_init 26 = .ok (.iload 5, 2) := by decide +kernel
theorem dX0_init_28 : decode cX0_init 28 = .ok (.putfield 22, 3) := by decide +kernel
theorem dX0_init_31 : decode cX0_init 31 = .ok (.aload_n 0, 1) := by decide +kernel
theorem dX0_init_32 : decode cX0_init 32 = .ok (.iload 6, 2) := by decide +kernel
theorem dX0_init_34 : decode cX0_init 34 = .ok (.putfield 25, 3) := by decide +kernel
theorem dX0_init_37 : decode cX0_init 37 = .ok (.return_, 1) := by decide +kernel
theorem dX1_init_0 : decode cX1_init 0 = .ok (.aload_n 0, 1) := by decide +kernel
theorem dX1_init_1 : decode cX1_init 1 = .ok (.invokespecial 1, 3) := by decide +kernel
theorem dX1_init_4 : decode cX1_init 4 = .ok (.aload_n 0, 1) := by decide +kernel
theorem dX1_init_5 : decode cX1_init 5 = .ok (.iload_n 1, 1) := by decide +kernel
theorem dX1_init_6 : decode cX1_init 6 = .ok (.putfield 7, 3) := by decide +kernel
theorem dX1_init_9 : decode cX1_init 9 = .ok (.aload_n 0, 1) := by decide +kernel
theorem dX1_init_10 : decode cX1_init 10 = .ok (.iload_n 2, 1) := by decide +kernel
theorem dX1_init_11 : decode cX1_init 11 = .ok (.putfield 13, 3) := by decide +kernel
theorem dX1_init_14 : decode cX1_init 14 = .ok (.aload_n 0, 1) := by decide +kernel
theorem dX1_init_15 : decode cX1_init 15 = .ok (.iload_n 3, 1) := by decide +kernel
theorem dX1_init_16 : decode cX1_init 16 = .ok (.putfield 16, 3) := by decide +kernel
theorem dX1_init_19 : decode cX1_init 19 = .ok (.aload_n 0, 1) := by decide +kernel
theorem dX1_init_20 : decode cX1_init 20 = .ok (.iload 4, 2) := by decide +kernel
theorem dX1_init_22 : decode cX1_init 22 = .ok (.putfield 19, 3) := by decide +kernel
theorem dX1_init_25 : decode cX1_init 25 = .ok (.return_, 1) := by decide +kernel
theorem dX2_init_0 : decode cX2_init 0 = .ok (.aload_n 0, 1) := by decide +kernel
theorem dX2_init_1 : decode cX2_init 1 = .ok (.invokespecial 1, 3) := by decide +kernel
theorem dX2_init_4 : decode cX2_init 4 = .ok (.aload_n 0, 1) := by decide +kernel
theorem dX2_init_5 : decode cX2_init 5 = .ok (.bipush 6, 2) := by decide +kernel
theorem dX2_init_7 : decode cX2_init 7 = .ok (.newarray .int, 2) := by decide +kernel
theorem dX2_init_9 : decode cX2_init 9 = .ok (.putfield 9, 3) := by decide +kernel
theorem dX2_init_12 : decode cX2_init 12 = .ok (.iconst 0, 1) := by decide +kernel
theorem dX2_init_13 : decode cX2_init 13 = .ok (.istore_n 1, 1) := by decide +kernel
theorem dX2_init_14 : decode cX2_init 14 = .ok (.iload_n 1, 1) := by decide +kernel
theorem dX2_init_15 : decode cX2_init 15 = .ok (.bipush 6, 2) := by decide +kernel
theorem dX2_init_17 : decode cX2_init 17 = .ok (.if_icmp .ge 18, 3) := by decide +kernel
theorem dX2_init_20 : decode cX2_init 20 = .ok (.aload_n 0, 1) := by decide +kernel
theorem dX2_init_21 : decode cX2_init 21 = .ok (.getfield 9, 3) := by decide +kernel
theorem dX2_init_24 : decode cX2_init 24 = .ok (.iload_n 1, 1) := by decide +kernel
theorem dX2_init_25 : decode cX2_init 25 = .ok (.sipush 10000, 3) := by decide +kernel
theorem dX2_init_28 : decode cX2_init 28 = .ok (.iastore, 1) := by decide +kernel
theorem dX2_init_29 : decode cX2_init 29 = .ok (.iinc 1 1, 3) := by decide +kernel
theorem dX2_init_32 : decode cX2_init 32 = .ok (.goto (-18), 3) := by decide +kernel
theorem dX2_init_35 : decode cX2_init 35 = .ok (.aload_n 0, 1) := by decide +kernel
theorem dX2_init_36 : decode cX2_init 36 = .ok (.sipush 200, 3) := by decide +kernel
theorem dX2_init_39 : decode cX2_init 39 = .ok (.anewarray 13, 3) := by decide +kernel
theorem dX2_init_42 : decode cX2_init 42 = .ok (.putfield 15, 3) := by decide +kernel
theorem dX2_init_45 : decode cX2_init 45 = .ok (.aload_n 0, 1) := by decide +kernel
theorem dX2_init_46 : decode cX2_init 46 = .ok (.bipush 60, 2) := by decide +kernel
theorem dX2_init_48 : decode cX2_init 48 = .ok (.anewarray 13, 3) := by decide +kernel
theorem dX2_init_51 : decode cX2_init 51 = .ok (.putfield 19, 3) := by decide +kernel
theorem dX2_init_54 : decode cX2_init 54 = .ok (.aload_n 0, 1) := by decide +kernel
theorem dX2_init_55 : decode cX2_init 55 = .ok (.bipush 60, 2) := by decide +kernel
theorem dX2_init_57 : decode cX2_init 57 = .ok (.anewarray 13, 3) := by decide +kernel
theorem dX2_init_60 : decode cX2_init 60 = .ok (.putfield 22, 3) := by decide +kernel
theorem dX2_init_63 : decode cX2_init 63 = .ok (.aload_n 0, 1) := by decide +kernel
theorem dX2_init_64 : decode cX2_init 64 = .ok (.sipush 200, 3) := by decide +kernel
theorem dX2_init_67 : decode cX2_init 67 = .ok (.anewarray 25, 3) := by decide +kernel
theorem dX2_init_70 : decode cX2_init 70 = .ok (.putfield 27, 3) := by decide +kernel
theorem dX2_init_73 : decode cX2_init 73 = .ok (.return_, 1) := by decide +kernel
set_option maxRecDepth 20000 in
theorem ggX2_arrive_X2_requirePair : GoodIn wsX2_arrive wsX2_requirePair := goodIn_ca (goodIn_r _ [14, 15, 16, 13, 17, 18, 19] (by decide +kernel) (by decide +kernel)) (goodIn_sub (fun _ h => List.mem_cons_of_mem _ (List.mem_append_right _ h)) (by decide +kernel))
set_option maxRecDepth 20000 in
theorem gX2_arrive_X2_requirePair : GoodIn wsX2_arrive (va_wsS RX2 31 yX2_requirePair wsX2_requirePair) := goodIn_app (goodIn_of _ (by decide +kernel)) ggX2_arrive_X2_requirePair
set_option maxRecDepth 20000 in
theorem ggX2_arrive_X2_requireRange : GoodIn wsX2_arrive wsX2_requireRange := goodIn_ca (goodIn_r _ [17, 18, 19] (by decide +kernel) (by decide +kernel)) (goodIn_sub (fun _ h => List.mem_cons_of_mem _ (List.mem_append_right _ h)) (by decide +kernel))
set_option maxRecDepth 20000 in
theorem gX2_arrive_X2_requireRange : GoodIn wsX2_arrive (va_wsS RX2 39 yX2_requireRange wsX2_requireRange) := goodIn_app (goodIn_of _ (by decide +kernel)) ggX2_arrive_X2_requireRange
set_option maxRecDepth 20000 in
theorem ggX2_arrive_X0_init : GoodIn wsX2_arrive wsX0_init := goodIn_r _ [22, 23, 24, 25, 26, 27, 28, 29, 30, 31, 53, 54, 55, 56, 57, 58, 59] (by decide +kernel) (by decide +kernel)
set_option maxRecDepth 20000 in
theorem gX2_arrive_X0_init : GoodIn wsX2_arrive (wsX0_init) := ggX2_arrive_X0_init
set_option maxRecDepth 20000 in
theorem ggX2_arrive_X2_putInChain : GoodIn wsX2_arrive wsX2_putInChain := goodIn_r _ [35, 36, 37, 38, 39, 40, 41, 42, 13, 43, 53, 54, 55, 56, 57, 58, 59, 44, 45, 46, 47, 48, 49, 50, 51, 52] (by decide +kernel) (by decide +kernel)
set_option maxRecDepth 20000 in
theorem gX2_arrive_X2_putInChain : GoodIn wsX2_arrive (wsV RX2 57 RX2 yX2_putInChain wsX2_putInChain) := goodIn_app (goodIn_of _ (by decide +kernel)) ggX2_arrive_X2_putInChain
theorem dX2_arrive_0 : decode cX2_arrive 0 = .ok (.iload_n 1, 1) := by decide +kernel
theorem dX2_arrive_1 : decode cX2_arrive 1 = .ok (.iload_n 2, 1) := by decide +kernel
theorem dX2_arrive_2 : decode cX2_arrive 2 = .ok (.invokestatic 31, 3) := by decide +kernel
theorem dX2_arrive_5 : decode cX2_arrive 5 = .ok (.iload_n 3, 1) := by decide +kernel
theorem dX2_arrive_6 : decode cX2_arrive 6 = .ok (.iconst 0, 1) := by decide +kernel
theorem dX2_arrive_7 : decode cX2_arrive 7 = .ok (.aload_n 0, 1) := by decide +kernel
theorem dX2_arrive_8 : decode cX2_arrive 8 = .ok (.getfield 35, 3) := by decide +kernel
theorem dX2_arrive_11 : decode cX2_arrive 11 = .ok (.invokestatic 39, 3) := by decide +kernel
theorem dX2_arrive_14 : decode cX2_arrive 14 = .ok (.iload 4, 2) := by decide +kernel
theorem dX2_arrive_16 : decode cX2_arrive 16 = .ok (.iconst 0, 1) := by decide +kernel
theorem dX2_arrive_17 : decode cX2_arrive 17 = .ok (.ldc 43, 2) := by decide +kernel
theorem dX2_arrive_19 : decode cX2_arrive 19 = .ok (.invokestatic 39, 3) := by decide +kernel
theorem dX2_arrive_22 : decode cX2_arrive 22 = .ok (.aload_n 0, 1) := by decide +kernel
theorem dX2_arrive_23 : decode cX2_arrive 23 = .ok (.getfield 44, 3) := by decide +kernel
theorem dX2_arrive_26 : decode cX2_arrive 26 = .ok (.sipush 200, 3) := by decide +kernel
theorem dX2_arrive_29 : decode cX2_arrive 29 = .ok (.if_icmp .lt 13, 3) := by decide +kernel
theorem dX2_arrive_32 : decode cX2_arrive 32 = .ok (.new 47, 3) := by decide +kernel
theorem dX2_arrive_35 : decode cX2_arrive 35 = .ok (.dup, 1) := by decide +kernel
theorem dX2_arrive_36 : decode cX2_arrive 36 = .ok (.ldc 49, 2) := by decide +kernel
theorem dX2_arrive_38 : decode cX2_arrive 38 = .ok (.invokespecial 51, 3) := by decide +kernel
theorem dX2_arrive_41 : decode cX2_arrive 41 = .ok (.athrow, 1) := by decide +kernel
theorem dX2_arrive_42 : decode cX2_arrive 42 = .ok (.new 13, 3) := by decide +kernel
theorem dX2_arrive_45 : decode cX2_arrive 45 = .ok (.dup, 1) := by decide +kernel
theorem dX2_arrive_46 : decode cX2_arrive 46 = .ok (.aload_n 0, 1) := by decide +kernel
theorem dX2_arrive_47 : decode cX2_arrive 47 = .ok (.getfield 44, 3) := by decide +kernel
theorem dX2_arrive_50 : decode cX2_arrive 50 = .ok (.iload_n 1, 1) := by decide +kernel
theorem dX2_arrive_51 : decode cX2_arrive 51 = .ok (.iload_n 2, 1) := by decide +kernel
theorem dX2_arrive_52 : decode cX2_arrive 52 = .ok (.iload_n 3, 1) := by decide +kernel
theorem dX2_arrive_53 : decode cX2_arrive 53 = .ok (.aload_n 0, 1) := by decide +kernel
theorem dX2_arrive_54 : decode cX2_arrive 54 = .ok (.getfield 35, 3) := by decide +kernel
theorem dX2_arrive_57 : decode cX2_arrive 57 = .ok (.iload 4, 2) := by decide +kernel
theorem dX2_arrive_59 : decode cX2_arrive 59 = .ok (.invokespecial 54, 3) := by decide +kernel
theorem dX2_arrive_62 : decode cX2_arrive 62 = .ok (.astore 5, 2) := by decide +kernel
theorem dX2_arrive_64 : decode cX2_arrive 64 = .ok (.aload_n 0, 1) := by decide +kernel
theorem dX2_arrive_65 : decode cX2_arrive 65 = .ok (.getfield 15, 3) := by decide +kernel
theorem dX2_arrive_68 : decode cX2_arrive 68 = .ok (.aload_n 0, 1) := by decide +kernel
theorem dX2_arrive_69 : decode cX2_arrive 69 = .ok (.getfield 44, 3) := by decide +kernel
theorem dX2_arrive_72 : decode cX2_arrive 72 = .ok (.aload 5, 2) := by decide +kernel
theorem dX2_arrive_74 : decode cX2_arrive 74 = .ok (.aastore, 1) := by decide +kernel
theorem dX2_arrive_75 : decode cX2_arrive 75 = .ok (.aload_n 0, 1) := by decide +kernel
theorem dX2_arrive_76 : decode cX2_arrive 76 = .ok (.dup, 1) := by decide +kernel
theorem dX2_arrive_77 : decode cX2_arrive 77 = .ok (.getfield 44, 3) := by decide +kernel
theorem dX2_arrive_80 : decode cX2_arrive 80 = .ok (.iconst 1, 1) := by decide +kernel
theorem dX2_arrive_81 : decode cX2_arrive 81 = .ok (.iadd, 1) := by decide +kernel
theorem dX2_arrive_82 : decode cX2_arrive 82 = .ok (.putfield 44, 3) := by decide +kernel
theorem dX2_arrive_85 : decode cX2_arrive 85 = .ok (.aload_n 0, 1) := by decide +kernel
theorem dX2_arrive_86 : decode cX2_arrive 86 = .ok (.aload 5, 2) := by decide +kernel
theorem dX2_arrive_88 : decode cX2_arrive 88 = .ok (.invokevirtual 57, 3) := by decide +kernel
theorem dX2_arrive_91 : decode cX2_arrive 91 = .ok (.aload 5, 2) := by decide +kernel
theorem dX2_arrive_93 : decode cX2_arrive 93 = .ok (.getfield 61, 3) := by decide +kernel
theorem dX2_arrive_96 : decode cX2_arrive 96 = .ok (.ireturn, 1) := by decide +kernel
set_option maxRecDepth 20000 in
theorem ggX2_pass_X2_requireRange : GoodIn wsX2_pass wsX2_requireRange := goodIn_ca (goodIn_r _ [7, 8, 9] (by decide +kernel) (by decide +kernel)) (goodIn_sub (fun _ h => List.mem_cons_of_mem _ (List.mem_append_right _ h)) (by decide +kernel))
set_option maxRecDepth 20000 in
theorem gX2_pass_X2_requireRange : GoodIn wsX2_pass (va_wsS RX2 39 yX2_requireRange wsX2_requireRange) := goodIn_app (goodIn_of _ (by decide +kernel)) ggX2_pass_X2_requireRange
theorem dX2_pass_0 : decode cX2_pass 0 = .ok (.iload_n 1, 1) := by decide +kernel
theorem dX2_pass_1 : decode cX2_pass 1 = .ok (.iconst 1, 1) := by decide +kernel
theorem dX2_pass_2 : decode cX2_pass 2 = .ok (.sipush 10000, 3) := by decide +kernel
theorem dX2_pass_5 : decode cX2_pass 5 = .ok (.invokestatic 39, 3) := by decide +kernel
theorem dX2_pass_8 : decode cX2_pass 8 = .ok (.iload_n 1, 1) := by decide +kernel
theorem dX2_pass_9 : decode cX2_pass 9 = .ok (.sipush 10000, 3) := by decide +kernel
theorem dX2_pass_12 : decode cX2_pass 12 = .ok (.aload_n 0, 1) := by decide +kernel
theorem dX2_pass_13 : decode cX2_pass 13 = .ok (.getfield 35, 3) := by decide +kernel
theorem dX2_pass_16 : decode cX2_pass 16 = .ok (.isub, 1) := by decide +kernel
theorem dX2_pass_17 : decode cX2_pass 17 = .ok (.if_icmp .le 13, 3) := by decide +kernel
theorem dX2_pass_20 : decode cX2_pass 20 = .ok (.new 47, 3) := by decide +kernel
theorem dX2_pass_23 : decode cX2_pass 23 = .ok (.dup, 1) := by decide +kernel
theorem dX2_pass_24 : decode cX2_pass 24 = .ok (.ldc 64, 2) := by decide +kernel
theorem dX2_pass_26 : decode cX2_pass 26 = .ok (.invokespecial 51, 3) := by decide +kernel
theorem dX2_pass_29 : decode cX2_pass 29 = .ok (.athrow, 1) := by decide +kernel
theorem dX2_pass_30 : decode cX2_pass 30 = .ok (.aload_n 0, 1) := by decide +kernel
theorem dX2_pass_31 : decode cX2_pass 31 = .ok (.dup, 1) := by decide +kernel
theorem dX2_pass_32 : decode cX2_pass 32 = .ok (.getfield 35, 3) := by decide +kernel
theorem dX2_pass_35 : decode cX2_pass 35 = .ok (.iload_n 1, 1) := by decide +kernel
theorem dX2_pass_36 : decode cX2_pass 36 = .ok (.iadd, 1) := by decide +kernel
theorem dX2_pass_37 : decode cX2_pass 37 = .ok (.putfield 35, 3) := by decide +kernel
theorem dX2_pass_40 : decode cX2_pass 40 = .ok (.aload_n 0, 1) := by decide +kernel
theorem dX2_pass_41 : decode cX2_pass 41 = .ok (.getfield 35, 3) := by decide +kernel
theorem dX2_pass_44 : decode cX2_pass 44 = .ok (.ireturn, 1) := by decide +kernel
set_option maxRecDepth 20000 in
theorem ggX2_setLifetime_X2_requireRange : GoodIn wsX2_setLifetime wsX2_requireRange := goodIn_ca (goodIn_r _ [5, 6, 7] (by decide +kernel) (by decide +kernel)) (goodIn_sub (fun _ h => List.mem_cons_of_mem _ (List.mem_append_right _ h)) (by decide +kernel))
set_option maxRecDepth 20000 in
theorem gX2_setLifetime_X2_requireRange : GoodIn wsX2_setLifetime (va_wsS RX2 39 yX2_requireRange wsX2_requireRange) := goodIn_app (goodIn_of _ (by decide +kernel)) ggX2_setLifetime_X2_requireRange
theorem dX2_setLifetime_0 : decode cX2_setLifetime 0 = .ok (.iload_n 1, 1) := by decide +kernel
theorem dX2_setLifetime_1 : decode cX2_setLifetime 1 = .ok (.iconst 0, 1) := by decide +kernel
theorem dX2_setLifetime_2 : decode cX2_setLifetime 2 = .ok (.iconst 5, 1) := by decide +kernel
theorem dX2_setLifetime_3 : decode cX2_setLifetime 3 = .ok (.invokestatic 39, 3) := by decide +kernel
theorem dX2_setLifetime_6 : decode cX2_setLifetime 6 = .ok (.iload_n 2, 1) := by decide +kernel
theorem dX2_setLifetime_7 : decode cX2_setLifetime 7 = .ok (.iconst 0, 1) := by decide +kernel
theorem dX2_setLifetime_8 : decode cX2_setLifetime 8 = .ok (.sipush 10000, 3) := by decide +kernel
theorem dX2_setLifetime_11 : decode cX2_setLifetime 11 = .ok (.invokestatic 39, 3) := by decide +kernel
theorem dX2_setLifetime_14 : decode cX2_setLifetime 14 = .ok (.aload_n 0, 1) := by decide +kernel
theorem dX2_setLifetime_15 : decode cX2_setLifetime 15 = .ok (.getfield 9, 3) := by decide +kernel
theorem dX2_setLifetime_18 : decode cX2_setLifetime 18 = .ok (.iload_n 1, 1) := by decide +kernel
theorem dX2_setLifetime_19 : decode cX2_setLifetime 19 = .ok (.iaload, 1) := by decide +kernel
theorem dX2_setLifetime_20 : decode cX2_setLifetime 20 = .ok (.istore_n 3, 1) := by decide +kernel
theorem dX2_setLifetime_21 : decode cX2_setLifetime 21 = .ok (.aload_n 0, 1) := by decide +kernel
theorem dX2_setLifetime_22 : decode cX2_setLifetime 22 = .ok (.getfield 9, 3) := by decide +kernel
theorem dX2_setLifetime_25 : decode cX2_setLifetime 25 = .ok (.iload_n 1, 1) := by decide +kernel
theorem dX2_setLifetime_26 : decode cX2_setLifetime 26 = .ok (.iload_n 2, 1) := by decide +kernel
theorem dX2_setLifetime_27 : decode cX2_setLifetime 27 = .ok (.iastore, 1) := by decide +kernel
theorem dX2_setLifetime_28 : decode cX2_setLifetime 28 = .ok (.iload_n 3, 1) := by decide +kernel
theorem dX2_setLifetime_29 : decode cX2_setLifetime 29 = .ok (.ireturn, 1) := by decide +kernel
theorem dX2_now_0 : decode cX2_now 0 = .ok (.aload_n 0, 1) := by decide +kernel
theorem dX2_now_1 : decode cX2_now 1 = .ok (.getfield 35, 3) := by decide +kernel
theorem dX2_now_4 : decode cX2_now 4 = .ok (.ireturn, 1) := by decide +kernel
theorem dX2_rows_0 : decode cX2_rows 0 = .ok (.aload_n 0, 1) := by decide +kernel
theorem dX2_rows_1 : decode cX2_rows 1 = .ok (.getfield 44, 3) := by decide +kernel
theorem dX2_rows_4 : decode cX2_rows 4 = .ok (.ireturn, 1) := by decide +kernel
set_option maxRecDepth 20000 in
theorem ggX2_value_X2_requireRow : GoodIn wsX2_value wsX2_requireRow := goodIn_ca (goodIn_r _ [6, 7, 8, 9, 10, 11, 5, 12, 13, 14, 22, 23, 24, 25, 26, 27, 28, 29, 30] (by decide +kernel) (by decide +kernel)) (goodIn_sub (fun _ h => List.mem_cons_of_mem _ (List.mem_append_right _ h)) (by decide +kernel))
set_option maxRecDepth 20000 in
theorem gX2_value_X2_requireRow : GoodIn wsX2_value (wsV RX2 66 RX2 yX2_requireRow wsX2_requireRow) := goodIn_app (goodIn_of _ (by decide +kernel)) ggX2_value_X2_requireRow
theorem dX2_value_0 : decode cX2_value 0 = .ok (.aload_n 0, 1) := by decide +kernel
theorem dX2_value_1 : decode cX2_value 1 = .ok (.iload_n 1, 1) := by decide +kernel
theorem dX2_value_2 : decode cX2_value 2 = .ok (.invokevirtual 66, 3) := by decide +kernel
theorem dX2_value_5 : decode cX2_value 5 = .ok (.getfield 70, 3) := by decide +kernel
theorem dX2_value_8 : decode cX2_value 8 = .ok (.ireturn, 1) := by decide +kernel
set_option maxRecDepth 20000 in
theorem ggX2_late_X2_requireRow : GoodIn wsX2_late wsX2_requireRow := goodIn_ca (goodIn_r _ [7, 8, 9, 10, 11, 12, 6, 13, 14, 15, 23, 24, 25, 26, 27, 28, 29, 30, 31] (by decide +kernel) (by decide +kernel)) (goodIn_sub (fun _ h => List.mem_cons_of_mem _ (List.mem_append_right _ h)) (by decide +kernel))
set_option maxRecDepth 20000 in
theorem gX2_late_X2_requireRow : GoodIn wsX2_late (wsV RX2 66 RX2 yX2_requireRow wsX2_requireRow) := goodIn_app (goodIn_of _ (by decide +kernel)) ggX2_late_X2_requireRow
theorem dX2_late_0 : decode cX2_late 0 = .ok (.aload_n 0, 1) := by decide +kernel
theorem dX2_late_1 : decode cX2_late 1 = .ok (.iload_n 1, 1) := by decide +kernel
theorem dX2_late_2 : decode cX2_late 2 = .ok (.invokevirtual 66, 3) := by decide +kernel
theorem dX2_late_5 : decode cX2_late 5 = .ok (.astore_n 2, 1) := by decide +kernel
theorem dX2_late_6 : decode cX2_late 6 = .ok (.aload_n 2, 1) := by decide +kernel
theorem dX2_late_7 : decode cX2_late 7 = .ok (.getfield 73, 3) := by decide +kernel
theorem dX2_late_10 : decode cX2_late 10 = .ok (.aload_n 2, 1) := by decide +kernel
theorem dX2_late_11 : decode cX2_late 11 = .ok (.getfield 76, 3) := by decide +kernel
theorem dX2_late_14 : decode cX2_late 14 = .ok (.isub, 1) := by decide +kernel
theorem dX2_late_15 : decode cX2_late 15 = .ok (.ireturn, 1) := by decide +kernel
set_option maxRecDepth 20000 in
theorem ggX2_join_X2_requirePair : GoodIn wsX2_join wsX2_requirePair := goodIn_ca (goodIn_r _ [5, 6, 7, 4, 8, 9, 10] (by decide +kernel) (by decide +kernel)) (goodIn_sub (fun _ h => List.mem_cons_of_mem _ (List.mem_append_right _ h)) (by decide +kernel))
set_option maxRecDepth 20000 in
theorem gX2_join_X2_requirePair : GoodIn wsX2_join (va_wsS RX2 31 yX2_requirePair wsX2_requirePair) := goodIn_app (goodIn_of _ (by decide +kernel)) ggX2_join_X2_requirePair
set_option maxRecDepth 20000 in
theorem ggX2_join_X2_requireRange : GoodIn wsX2_join wsX2_requireRange := goodIn_ca (goodIn_r _ [8, 9, 10] (by decide +kernel) (by decide +kernel)) (goodIn_sub (fun _ h => List.mem_cons_of_mem _ (List.mem_append_right _ h)) (by decide +kernel))
set_option maxRecDepth 20000 in
theorem gX2_join_X2_requireRange : GoodIn wsX2_join (va_wsS RX2 39 yX2_requireRange wsX2_requireRange) := goodIn_app (goodIn_of _ (by decide +kernel)) ggX2_join_X2_requireRange
set_option maxRecDepth 20000 in
theorem ggX2_join_X2_find : GoodIn wsX2_join wsX2_find := goodIn_r _ [14, 15, 16, 17, 18, 19, 20, 4, 21, 22, 23, 24, 25, 26, 27, 28, 29, 30, 31, 32, 33, 34, 35, 36, 37, 38, 39, 40, 41, 42, 43, 44] (by decide +kernel) (by decide +kernel)
set_option maxRecDepth 20000 in
theorem gX2_join_X2_find : GoodIn wsX2_join (wsV RX2 79 RX2 yX2_find wsX2_find) := goodIn_app (goodIn_of _ (by decide +kernel)) ggX2_join_X2_find
theorem dX2_join_0 : decode cX2_join 0 = .ok (.iload_n 1, 1) := by decide +kernel
theorem dX2_join_1 : decode cX2_join 1 = .ok (.iload_n 2, 1) := by decide +kernel
theorem dX2_join_2 : decode cX2_join 2 = .ok (.invokestatic 31, 3) := by decide +kernel
theorem dX2_join_5 : decode cX2_join 5 = .ok (.iload_n 3, 1) := by decide +kernel
theorem dX2_join_6 : decode cX2_join 6 = .ok (.iconst 0, 1) := by decide +kernel
theorem dX2_join_7 : decode cX2_join 7 = .ok (.sipush 10000, 3) := by decide +kernel
theorem dX2_join_10 : decode cX2_join 10 = .ok (.invokestatic 39, 3) := by decide +kernel
theorem dX2_join_13 : decode cX2_join 13 = .ok (.iload 4, 2) := by decide +kernel
theorem dX2_join_15 : decode cX2_join 15 = .ok (.iconst 0, 1) := by decide +kernel
theorem dX2_join_16 : decode cX2_join 16 = .ok (.aload_n 0, 1) := by decide +kernel
theorem dX2_join_17 : decode cX2_join 17 = .ok (.getfield 35, 3) := by decide +kernel
theorem dX2_join_20 : decode cX2_join 20 = .ok (.invokestatic 39, 3) := by decide +kernel
theorem dX2_join_23 : decode cX2_join 23 = .ok (.aload_n 0, 1) := by decide +kernel
theorem dX2_join_24 : decode cX2_join 24 = .ok (.iload_n 1, 1) := by decide +kernel
theorem dX2_join_25 : decode cX2_join 25 = .ok (.iload_n 2, 1) := by decide +kernel
theorem dX2_join_26 : decode cX2_join 26 = .ok (.iload_n 3, 1) := by decide +kernel
theorem dX2_join_27 : decode cX2_join 27 = .ok (.iload 4, 2) := by decide +kernel
theorem dX2_join_29 : decode cX2_join 29 = .ok (.invokevirtual 79, 3) := by decide +kernel
theorem dX2_join_32 : decode cX2_join 32 = .ok (.ireturn, 1) := by decide +kernel
set_option maxRecDepth 20000 in
theorem ggX2_window_X2_requirePair : GoodIn wsX2_window wsX2_requirePair := goodIn_ca (goodIn_r _ [8, 9, 10, 7, 11, 12, 13] (by decide +kernel) (by decide +kernel)) (goodIn_sub (fun _ h => List.mem_cons_of_mem _ (List.mem_append_right _ h)) (by decide +kernel))
set_option maxRecDepth 20000 in
theorem gX2_window_X2_requirePair : GoodIn wsX2_window (va_wsS RX2 31 yX2_requirePair wsX2_requirePair) := goodIn_app (goodIn_of _ (by decide +kernel)) ggX2_window_X2_requirePair
set_option maxRecDepth 20000 in
theorem ggX2_window_X2_requireRange : GoodIn wsX2_window wsX2_requireRange := goodIn_ca (goodIn_r _ [11, 12, 13] (by decide +kernel) (by decide +kernel)) (goodIn_sub (fun _ h => List.mem_cons_of_mem _ (List.mem_append_right _ h)) (by decide +kernel))
set_option maxRecDepth 20000 in
theorem gX2_window_X2_requireRange : GoodIn wsX2_window (va_wsS RX2 39 yX2_requireRange wsX2_requireRange) := goodIn_app (goodIn_of _ (by decide +kernel)) ggX2_window_X2_requireRange
set_option maxRecDepth 20000 in
theorem ggX2_window_X2_placeOf : GoodIn wsX2_window wsX2_placeOf := goodIn_r _ [16] (by decide +kernel) (by decide +kernel)
set_option maxRecDepth 20000 in
theorem gX2_window_X2_placeOf : GoodIn wsX2_window (va_wsS RX2 83 yX2_placeOf wsX2_placeOf) := goodIn_app (goodIn_of _ (by decide +kernel)) ggX2_window_X2_placeOf
theorem dX2_window_0 : decode cX2_window 0 = .ok (.iload_n 1, 1) := by decide +kernel
theorem dX2_window_1 : decode cX2_window 1 = .ok (.iload_n 2, 1) := by decide +kernel
theorem dX2_window_2 : decode cX2_window 2 = .ok (.invokestatic 31, 3) := by decide +kernel
theorem dX2_window_5 : decode cX2_window 5 = .ok (.iload_n 3, 1) := by decide +kernel
theorem dX2_window_6 : decode cX2_window 6 = .ok (.iconst 0, 1) := by decide +kernel
theorem dX2_window_7 : decode cX2_window 7 = .ok (.sipush 10000, 3) := by decide +kernel
theorem dX2_window_10 : decode cX2_window 10 = .ok (.invokestatic 39, 3) := by decide +kernel
theorem dX2_window_13 : decode cX2_window 13 = .ok (.iload 4, 2) := by decide +kernel
theorem dX2_window_15 : decode cX2_window 15 = .ok (.iload_n 3, 1) := by decide +kernel
theorem dX2_window_16 : decode cX2_window 16 = .ok (.sipush 10000, 3) := by decide +kernel
theorem dX2_window_19 : decode cX2_window 19 = .ok (.invokestatic 39, 3) := by decide +kernel
theorem dX2_window_22 : decode cX2_window 22 = .ok (.iconst 0, 1) := by decide +kernel
theorem dX2_window_23 : decode cX2_window 23 = .ok (.istore 5, 2) := by decide +kernel
theorem dX2_window_25 : decode cX2_window 25 = .ok (.aload_n 0, 1) := by decide +kernel
theorem dX2_window_26 : decode cX2_window 26 = .ok (.getfield 19, 3) := by decide +kernel
theorem dX2_window_29 : decode cX2_window 29 = .ok (.iload_n 1, 1) := by decide +kernel
theorem dX2_window_30 : decode cX2_window 30 = .ok (.iload_n 2, 1) := by decide +kernel
theorem dX2_window_31 : decode cX2_window 31 = .ok (.invokestatic 83, 3) := by decide +kernel
theorem dX2_window_34 : decode cX2_window 34 = .ok (.aaload, 1) := by decide +kernel
theorem dX2_window_35 : decode cX2_window 35 = .ok (.astore 6, 2) := by decide +kernel
theorem dX2_window_37 : decode cX2_window 37 = .ok (.aload 6, 2) := by decide +kernel
theorem dX2_window_39 : decode cX2_window 39 = .ok (.ifnull 42, 3) := by decide +kernel
theorem dX2_window_42 : decode cX2_window 42 = .ok (.aload 6, 2) := by decide +kernel
theorem dX2_window_44 : decode cX2_window 44 = .ok (.getfield 76, 3) := by decide +kernel
theorem dX2_window_47 : decode cX2_window 47 = .ok (.iload_n 3, 1) := by decide +kernel
theorem dX2_window_48 : decode cX2_window 48 = .ok (.if_icmp .lt 23, 3) := by decide +kernel
theorem dX2_window_51 : decode cX2_window 51 = .ok (.aload 6, 2) := by decide +kernel
theorem dX2_window_53 : decode cX2_window 53 = .ok (.getfield 76, 3) := by decide +kernel
theorem dX2_window_56 : decode cX2_window 56 = .ok (.iload 4, 2) := by decide +kernel
theorem dX2_window_58 : decode cX2_window 58 = .ok (.if_icmp .gt 13, 3) := by decide +kernel
theorem dX2_window_61 : decode cX2_window 61 = .ok (.iload 5, 2) := by decide +kernel
theorem dX2_window_63 : decode cX2_window 63 = .ok (.aload 6, 2) := by decide +kernel
theorem dX2_window_65 : decode cX2_window 65 = .ok (.getfield 70, 3) := by decide +kernel
theorem dX2_window_68 : decode cX2_window 68 = .ok (.iadd, 1) := by decide +kernel
theorem dX2_window_69 : decode cX2_window 69 = .ok (.istore 5, 2) := by decide +kernel
theorem dX2_window_71 : decode cX2_window 71 = .ok (.aload 6, 2) := by decide +kernel
theorem dX2_window_73 : decode cX2_window 73 = .ok (.getfield 87, 3) := by decide +kernel
theorem dX2_window_76 : decode cX2_window 76 = .ok (.astore 6, 2) := by decide +kernel
theorem dX2_window_78 : decode cX2_window 78 = .ok (.goto (-41), 3) := by decide +kernel
theorem dX2_window_81 : decode cX2_window 81 = .ok (.iload 5, 2) := by decide +kernel
theorem dX2_window_83 : decode cX2_window 83 = .ok (.ireturn, 1) := by decide +kernel
set_option maxRecDepth 20000 in
theorem ggX2_greatestTile_X2_requirePair : GoodIn wsX2_greatestTile wsX2_requirePair := goodIn_ca (goodIn_r _ [12, 13, 14, 11, 15, 16, 17] (by decide +kernel) (by decide +kernel)) (goodIn_sub (fun _ h => List.mem_cons_of_mem _ (List.mem_append_right _ h)) (by decide +kernel))
set_option maxRecDepth 20000 in
theorem gX2_greatestTile_X2_requirePair : GoodIn wsX2_greatestTile (va_wsS RX2 31 yX2_requirePair wsX2_requirePair) := goodIn_app (goodIn_of _ (by decide +kernel)) ggX2_greatestTile_X2_requirePair
set_option maxRecDepth 20000 in
theorem ggX2_greatestTile_X2_requireRange : GoodIn wsX2_greatestTile wsX2_requireRange := goodIn_ca (goodIn_r _ [15, 16, 17] (by decide +kernel) (by decide +kernel)) (goodIn_sub (fun _ h => List.mem_cons_of_mem _ (List.mem_append_right _ h)) (by decide +kernel))
set_option maxRecDepth 20000 in
theorem gX2_greatestTile_X2_requireRange : GoodIn wsX2_greatestTile (va_wsS RX2 39 yX2_requireRange wsX2_requireRange) := goodIn_app (goodIn_of _ (by decide +kernel)) ggX2_greatestTile_X2_requireRange
set_option maxRecDepth 20000 in
theorem ggX2_greatestTile_X2_placeOf : GoodIn wsX2_greatestTile wsX2_placeOf := goodIn_r _ [20] (by decide +kernel) (by decide +kernel)
set_option maxRecDepth 20000 in
theorem gX2_greatestTile_X2_placeOf : GoodIn wsX2_greatestTile (va_wsS RX2 83 yX2_placeOf wsX2_placeOf) := goodIn_app (goodIn_of _ (by decide +kernel)) ggX2_greatestTile_X2_placeOf
theorem dX2_greatestTile_0 : decode cX2_greatestTile 0 = .ok (.iload_n 1, 1) := by decide +kernel
theorem dX2_greatestTile_1 : decode cX2_greatestTile 1 = .ok (.iload_n 2, 1) := by decide +kernel
theorem dX2_greatestTile_2 : decode cX2_greatestTile 2 = .ok (.invokestatic 31, 3) := by decide +kernel
theorem dX2_greatestTile_5 : decode cX2_greatestTile 5 = .ok (.iload_n 3, 1) := by decide +kernel
theorem dX2_greatestTile_6 : decode cX2_greatestTile 6 = .ok (.iconst 1, 1) := by decide +kernel
theorem dX2_greatestTile_7 : decode cX2_greatestTile 7 = .ok (.sipush 10000, 3) := by decide +kernel
theorem dX2_greatestTile_10 : decode cX2_greatestTile 10 = .ok (.invokestatic 39, 3) := by decide +kernel
theorem dX2_greatestTile_13 : decode cX2_greatestTile 13 = .ok (.iconst 0, 1) := by decide +kernel
theorem dX2_greatestTile_14 : decode cX2_greatestTile 14 = .ok (.istore 4, 2) := by decide +kernel
theorem dX2_greatestTile_16 : decode cX2_greatestTile 16 = .ok (.iconst 0, 1) := by decide +kernel
theorem dX2_greatestTile_17 : decode cX2_greatestTile 17 = .ok (.istore 5, 2) := by decide +kernel
theorem dX2_greatestTile_19 : decode cX2_greatestTile 19 = .ok (.iconst (-1), 1) := by decide +kernel
theorem dX2_greatestTile_20 : decode cX2_greatestTile 20 = .ok (.istore 6, 2) := by decide +kernel
theorem dX2_greatestTile_22 : decode cX2_greatestTile 22 = .ok (.aload_n 0, 1) := by decide +kernel
theorem dX2_greatestTile_23 : decode cX2_greatestTile 23 = .ok (.getfield 19, 3) := by decide +kernel
theorem dX2_greatestTile_26 : decode cX2_greatestTile 26 = .ok (.iload_n 1, 1) := by decide +kernel
theorem dX2_greatestTile_27 : decode cX2_greatestTile 27 = .ok (.iload_n 2, 1) := by decide +kernel
theorem dX2_greatestTile_28 : decode cX2_greatestTile 28 = .ok (.invokestatic 83, 3) := by decide +kernel
theorem dX2_greatestTile_31 : decode cX2_greatestTile 31 = .ok (.aaload, 1) := by decide +kernel
theorem dX2_greatestTile_32 : decode cX2_greatestTile 32 = .ok (.astore 7, 2) := by decide +kernel
theorem dX2_greatestTile_34 : decode cX2_greatestTile 34 = .ok (.aload 7, 2) := by decide +kernel
theorem dX2_greatestTile_36 : decode cX2_greatestTile 36 = .ok (.ifnull 55, 3) := by decide +kernel
theorem dX2_greatestTile_39 : decode cX2_greatestTile 39 = .ok (.aload 7, 2) := by decide +kernel
theorem dX2_greatestTile_41 : decode cX2_greatestTile 41 = .ok (.getfield 76, 3) := by decide +kernel
theorem dX2_greatestTile_44 : decode cX2_greatestTile 44 = .ok (.iload_n 3, 1) := by decide +kernel
theorem dX2_greatestTile_45 : decode cX2_greatestTile 45 = .ok (.idiv, 1) := by decide +kernel
theorem dX2_greatestTile_46 : decode cX2_greatestTile 46 = .ok (.istore 8, 2) := by decide +kernel
theorem dX2_greatestTile_48 : decode cX2_greatestTile 48 = .ok (.iload 8, 2) := by decide +kernel
theorem dX2_greatestTile_50 : decode cX2_greatestTile 50 = .ok (.iload 6, 2) := by decide +kernel
theorem dX2_greatestTile_52 : decode cX2_greatestTile 52 = .ok (.if_icmp .eq 10, 3) := by decide +kernel
theorem dX2_greatestTile_55 : decode cX2_greatestTile 55 = .ok (.iload 8, 2) := by decide +kernel
theorem dX2_greatestTile_57 : decode cX2_greatestTile 57 = .ok (.istore 6, 2) := by decide +kernel
theorem dX2_greatestTile_59 : decode cX2_greatestTile 59 = .ok (.iconst 0, 1) := by decide +kernel
theorem dX2_greatestTile_60 : decode cX2_greatestTile 60 = .ok (.istore 5, 2) := by decide +kernel
theorem dX2_greatestTile_62 : decode cX2_greatestTile 62 = .ok (.iload 5, 2) := by decide +kernel
theorem dX2_greatestTile_64 : decode cX2_greatestTile 64 = .ok (.aload 7, 2) := by decide +kernel
theorem dX2_greatestTile_66 : decode cX2_greatestTile 66 = .ok (.getfield 70, 3) := by decide +kernel
theorem dX2_greatestTile_69 : decode cX2_greatestTile 69 = .ok (.iadd, 1) := by decide +kernel
theorem dX2_greatestTile_70 : decode cX2_greatestTile 70 = .ok (.istore 5, 2) := by decide +kernel
theorem dX2_greatestTile_72 : decode cX2_greatestTile 72 = .ok (.iload 4, 2) := by decide +kernel
theorem dX2_greatestTile_74 : decode cX2_greatestTile 74 = .ok (.iload 5, 2) := by decide +kernel
theorem dX2_greatestTile_76 : decode cX2_greatestTile 76 = .ok (.invokestatic 91, 3) := by decide +kernel
theorem dX2_greatestTile_79 : decode cX2_greatestTile 79 = .ok (.istore 4, 2) := by decide +kernel
theorem dX2_greatestTile_81 : decode cX2_greatestTile 81 = .ok (.aload 7, 2) := by decide +kernel
theorem dX2_greatestTile_83 : decode cX2_greatestTile 83 = .ok (.getfield 87, 3) := by decide +kernel
theorem dX2_greatestTile_86 : decode cX2_greatestTile 86 = .ok (.astore 7, 2) := by decide +kernel
theorem dX2_greatestTile_88 : decode cX2_greatestTile 88 = .ok (.goto (-54), 3) := by decide +kernel
theorem dX2_greatestTile_91 : decode cX2_greatestTile 91 = .ok (.iload 4, 2) := by decide +kernel
theorem dX2_greatestTile_93 : decode cX2_greatestTile 93 = .ok (.ireturn, 1) := by decide +kernel
set_option maxRecDepth 20000 in
theorem ggX2_tiles_X2_requirePair : GoodIn wsX2_tiles wsX2_requirePair := goodIn_ca (goodIn_r _ [7, 8, 9, 6, 10, 11, 12] (by decide +kernel) (by decide +kernel)) (goodIn_sub (fun _ h => List.mem_cons_of_mem _ (List.mem_append_right _ h)) (by decide +kernel))
set_option maxRecDepth 20000 in
theorem gX2_tiles_X2_requirePair : GoodIn wsX2_tiles (va_wsS RX2 31 yX2_requirePair wsX2_requirePair) := goodIn_app (goodIn_of _ (by decide +kernel)) ggX2_tiles_X2_requirePair
set_option maxRecDepth 20000 in
theorem ggX2_tiles_X2_requireRange : GoodIn wsX2_tiles wsX2_requireRange := goodIn_ca (goodIn_r _ [10, 11, 12] (by decide +kernel) (by decide +kernel)) (goodIn_sub (fun _ h => List.mem_cons_of_mem _ (List.mem_append_right _ h)) (by decide +kernel))
set_option maxRecDepth 20000 in
theorem gX2_tiles_X2_requireRange : GoodIn wsX2_tiles (va_wsS RX2 39 yX2_requireRange wsX2_requireRange) := goodIn_app (goodIn_of _ (by decide +kernel)) ggX2_tiles_X2_requireRange
set_option maxRecDepth 20000 in
theorem ggX2_tiles_X2_placeOf : GoodIn wsX2_tiles wsX2_placeOf := goodIn_r _ [15] (by decide +kernel) (by decide +kernel)
set_option maxRecDepth 20000 in
theorem gX2_tiles_X2_placeOf : GoodIn wsX2_tiles (va_wsS RX2 83 yX2_placeOf wsX2_placeOf) := goodIn_app (goodIn_of _ (by decide +kernel)) ggX2_tiles_X2_placeOf
theorem dX2_tiles_0 : decode cX2_tiles 0 = .ok (.iload_n 1, 1) := by decide +kernel
theorem dX2_tiles_1 : decode cX2_tiles 1 = .ok (.iload_n 2, 1) := by decide +kernel
theorem dX2_tiles_2 : decode cX2_tiles 2 = .ok (.invokestatic 31, 3) := by decide +kernel
theorem dX2_tiles_5 : decode cX2_tiles 5 = .ok (.iload_n 3, 1) := by decide +kernel
theorem dX2_tiles_6 : decode cX2_tiles 6 = .ok (.iconst 1, 1) := by decide +kernel
theorem dX2_tiles_7 : decode cX2_tiles 7 = .ok (.sipush 10000, 3) := by decide +kernel
theorem dX2_tiles_10 : decode cX2_tiles 10 = .ok (.invokestatic 39, 3) := by decide +kernel
theorem dX2_tiles_13 : decode cX2_tiles 13 = .ok (.iconst 0, 1) := by decide +kernel
theorem dX2_tiles_14 : decode cX2_tiles 14 = .ok (.istore 4, 2) := by decide +kernel
theorem dX2_tiles_16 : decode cX2_tiles 16 = .ok (.iconst (-1), 1) := by decide +kernel
theorem dX2_tiles_17 : decode cX2_tiles 17 = .ok (.istore 5, 2) := by decide +kernel
theorem dX2_tiles_19 : decode cX2_tiles 19 = .ok (.aload_n 0, 1) := by decide +kernel
theorem dX2_tiles_20 : decode cX2_tiles 20 = .ok (.getfield 19, 3) := by decide +kernel
theorem dX2_tiles_23 : decode cX2_tiles 23 = .ok (.iload_n 1, 1) := by decide +kernel
theorem dX2_tiles_24 : decode cX2_tiles 24 = .ok (.iload_n 2, 1) := by decide +kernel
theorem dX2_tiles_25 : decode cX2_tiles 25 = .ok (.invokestatic 83, 3) := by decide +kernel
theorem dX2_tiles_28 : decode cX2_tiles 28 = .ok (.aaload, 1) := by decide +kernel
theorem dX2_tiles_29 : decode cX2_tiles 29 = .ok (.astore 6, 2) := by decide +kernel
theorem dX2_tiles_31 : decode cX2_tiles 31 = .ok (.aload 6, 2) := by decide +kernel
theorem dX2_tiles_33 : decode cX2_tiles 33 = .ok (.ifnull 36, 3) := by decide +kernel
theorem dX2_tiles_36 : decode cX2_tiles 36 = .ok (.aload 6, 2) := by decide +kernel
theorem dX2_tiles_38 : decode cX2_tiles 38 = .ok (.getfield 76, 3) := by decide +kernel
theorem dX2_tiles_41 : decode cX2_tiles 41 = .ok (.iload_n 3, 1) := by decide +kernel
theorem dX2_tiles_42 : decode cX2_tiles 42 = .ok (.idiv, 1) := by decide +kernel
theorem dX2_tiles_43 : decode cX2_tiles 43 = .ok (.istore 7, 2) := by decide +kernel
theorem dX2_tiles_45 : decode cX2_tiles 45 = .ok (.iload 7, 2) := by decide +kernel
theorem dX2_tiles_47 : decode cX2_tiles 47 = .ok (.iload 5, 2) := by decide +kernel
theorem dX2_tiles_49 : decode cX2_tiles 49 = .ok (.if_icmp .eq 10, 3) := by decide +kernel
theorem dX2_tiles_52 : decode cX2_tiles 52 = .ok (.iload 7, 2) := by decide +kernel
theorem dX2_tiles_54 : decode cX2_tiles 54 = .ok (.istore 5, 2) := by decide +kernel
theorem dX2_tiles_56 : decode cX2_tiles 56 = .ok (.iinc 4 1, 3) := by decide +kernel
theorem dX2_tiles_59 : decode cX2_tiles 59 = .ok (.aload 6, 2) := by decide +kernel
theorem dX2_tiles_61 : decode cX2_tiles 61 = .ok (.getfield 87, 3) := by decide +kernel
theorem dX2_tiles_64 : decode cX2_tiles 64 = .ok (.astore 6, 2) := by decide +kernel
theorem dX2_tiles_66 : decode cX2_tiles 66 = .ok (.goto (-35), 3) := by decide +kernel
theorem dX2_tiles_69 : decode cX2_tiles 69 = .ok (.iload 4, 2) := by decide +kernel
theorem dX2_tiles_71 : decode cX2_tiles 71 = .ok (.ireturn, 1) := by decide +kernel
set_option maxRecDepth 20000 in
theorem ggX2_revised_X2_requirePair : GoodIn wsX2_revised wsX2_requirePair := goodIn_ca (goodIn_r _ [14, 15, 16, 13, 17, 18, 19] (by decide +kernel) (by decide +kernel)) (goodIn_sub (fun _ h => List.mem_cons_of_mem _ (List.mem_append_right _ h)) (by decide +kernel))
set_option maxRecDepth 20000 in
theorem gX2_revised_X2_requirePair : GoodIn wsX2_revised (va_wsS RX2 31 yX2_requirePair wsX2_requirePair) := goodIn_app (goodIn_of _ (by decide +kernel)) ggX2_revised_X2_requirePair
set_option maxRecDepth 20000 in
theorem ggX2_revised_X2_requireRange : GoodIn wsX2_revised wsX2_requireRange := goodIn_ca (goodIn_r _ [17, 18, 19] (by decide +kernel) (by decide +kernel)) (goodIn_sub (fun _ h => List.mem_cons_of_mem _ (List.mem_append_right _ h)) (by decide +kernel))
set_option maxRecDepth 20000 in
theorem gX2_revised_X2_requireRange : GoodIn wsX2_revised (va_wsS RX2 39 yX2_requireRange wsX2_requireRange) := goodIn_app (goodIn_of _ (by decide +kernel)) ggX2_revised_X2_requireRange
set_option maxRecDepth 20000 in
theorem ggX2_revised_X2_placeOf : GoodIn wsX2_revised wsX2_placeOf := goodIn_r _ [22] (by decide +kernel) (by decide +kernel)
set_option maxRecDepth 20000 in
theorem gX2_revised_X2_placeOf : GoodIn wsX2_revised (va_wsS RX2 83 yX2_placeOf wsX2_placeOf) := goodIn_app (goodIn_of _ (by decide +kernel)) ggX2_revised_X2_placeOf
set_option maxRecDepth 20000 in
theorem ggX2_revised_X2_multiplesBelow : GoodIn wsX2_revised wsX2_multiplesBelow := goodIn_r _ [25] (by decide +kernel) (by decide +kernel)
set_option maxRecDepth 20000 in
theorem gX2_revised_X2_multiplesBelow : GoodIn wsX2_revised (va_wsS RX2 99 yX2_multiplesBelow wsX2_multiplesBelow) := goodIn_app (goodIn_of _ (by decide +kernel)) ggX2_revised_X2_multiplesBelow
theorem dX2_revised_0 : decode cX2_revised 0 = .ok (.iload_n 1, 1) := by decide +kernel
theorem dX2_revised_1 : decode cX2_revised 1 = .ok (.iload_n 2, 1) := by decide +kernel
theorem dX2_revised_2 : decode cX2_revised 2 = .ok (.invokestatic 31, 3) := by decide +kernel
theorem dX2_revised_5 : decode cX2_revised 5 = .ok (.iload_n 3, 1) := by decide +kernel
theorem dX2_revised_6 : decode cX2_revised 6 = .ok (.iconst 1, 1) := by decide +kernel
theorem dX2_revised_7 : decode cX2_revised 7 = .ok (.sipush 10000, 3) := by decide +kernel
theorem dX2_revised_10 : decode cX2_revised 10 = .ok (.invokestatic 39, 3) := by decide +kernel
theorem dX2_revised_13 : decode cX2_revised 13 = .ok (.iconst 0, 1) := by decide +kernel
theorem dX2_revised_14 : decode cX2_revised 14 = .ok (.istore 4, 2) := by decide +kernel
theorem dX2_revised_16 : decode cX2_revised 16 = .ok (.aload_n 0, 1) := by decide +kernel
theorem dX2_revised_17 : decode cX2_revised 17 = .ok (.getfield 35, 3) := by decide +kernel
theorem dX2_revised_20 : decode cX2_revised 20 = .ok (.iconst 1, 1) := by decide +kernel
theorem dX2_revised_21 : decode cX2_revised 21 = .ok (.iadd, 1) := by decide +kernel
theorem dX2_revised_22 : decode cX2_revised 22 = .ok (.istore 5, 2) := by decide +kernel
theorem dX2_revised_24 : decode cX2_revised 24 = .ok (.aload_n 0, 1) := by decide +kernel
theorem dX2_revised_25 : decode cX2_revised 25 = .ok (.getfield 19, 3) := by decide +kernel
theorem dX2_revised_28 : decode cX2_revised 28 = .ok (.iload_n 1, 1) := by decide +kernel
theorem dX2_revised_29 : decode cX2_revised 29 = .ok (.iload_n 2, 1) := by decide +kernel
theorem dX2_revised_30 : decode cX2_revised 30 = .ok (.invokestatic 83, 3) := by decide +kernel
theorem dX2_revised_33 : decode cX2_revised 33 = .ok (.aaload, 1) := by decide +kernel
theorem dX2_revised_34 : decode cX2_revised 34 = .ok (.astore 6, 2) := by decide +kernel
theorem dX2_revised_36 : decode cX2_revised 36 = .ok (.aload 6, 2) := by decide +kernel
theorem dX2_revised_38 : decode cX2_revised 38 = .ok (.ifnull 84, 3) := by decide +kernel
theorem dX2_revised_41 : decode cX2_revised 41 = .ok (.iload 5, 2) := by decide +kernel
theorem dX2_revised_43 : decode cX2_revised 43 = .ok (.aload 6, 2) := by decide +kernel
theorem dX2_revised_45 : decode cX2_revised 45 = .ok (.getfield 76, 3) := by decide +kernel
theorem dX2_revised_48 : decode cX2_revised 48 = .ok (.aload_n 0, 1) := by decide +kernel
theorem dX2_revised_49 : decode cX2_revised 49 = .ok (.getfield 9, 3) := by decide +kernel
theorem dX2_revised_52 : decode cX2_revised 52 = .ok (.iload_n 1, 1) := by decide +kernel
theorem dX2_revised_53 : decode cX2_revised 53 = .ok (.iaload, 1) := by decide +kernel
theorem dX2_revised_54 : decode cX2_revised 54 = .ok (.iadd, 1) := by decide +kernel
theorem dX2_revised_55 : decode cX2_revised 55 = .ok (.iconst 1, 1) := by decide +kernel
theorem dX2_revised_56 : decode cX2_revised 56 = .ok (.iadd, 1) := by decide +kernel
theorem dX2_revised_57 : decode cX2_revised 57 = .ok (.invokestatic 96, 3) := by decide +kernel
theorem dX2_revised_60 : decode cX2_revised 60 = .ok (.istore 7, 2) := by decide +kernel
theorem dX2_revised_62 : decode cX2_revised 62 = .ok (.iload 7, 2) := by decide +kernel
theorem dX2_revised_64 : decode cX2_revised 64 = .ok (.aload 6, 2) := by decide +kernel
theorem dX2_revised_66 : decode cX2_revised 66 = .ok (.getfield 73, 3) := by decide +kernel
theorem dX2_revised_69 : decode cX2_revised 69 = .ok (.invokestatic 96, 3) := by decide +kernel
theorem dX2_revised_72 : decode cX2_revised 72 = .ok (.istore 8, 2) := by decide +kernel
theorem dX2_revised_74 : decode cX2_revised 74 = .ok (.iload 8, 2) := by decide +kernel
theorem dX2_revised_76 : decode cX2_revised 76 = .ok (.aload 6, 2) := by decide +kernel
theorem dX2_revised_78 : decode cX2_revised 78 = .ok (.getfield 76, 3) := by decide +kernel
theorem dX2_revised_81 : decode cX2_revised 81 = .ok (.if_icmp .le 24, 3) := by decide +kernel
theorem dX2_revised_84 : decode cX2_revised 84 = .ok (.iload 4, 2) := by decide +kernel
theorem dX2_revised_86 : decode cX2_revised 86 = .ok (.iload 8, 2) := by decide +kernel
theorem dX2_revised_88 : decode cX2_revised 88 = .ok (.iload_n 3, 1) := by decide +kernel
theorem dX2_revised_89 : decode cX2_revised 89 = .ok (.invokestatic 99, 3) := by decide +kernel
theorem dX2_revised_92 : decode cX2_revised 92 = .ok (.aload 6, 2) := by decide +kernel
theorem dX2_revised_94 : decode cX2_revised 94 = .ok (.getfield 76, 3) := by decide +kernel
theorem dX2_revised_97 : decode cX2_revised 97 = .ok (.iload_n 3, 1) := by decide +kernel
theorem dX2_revised_98 : decode cX2_revised 98 = .ok (.invokestatic 99, 3) := by decide +kernel
theorem dX2_revised_101 : decode cX2_revised 101 = .ok (.isub, 1) := by decide +kernel
theorem dX2_revised_102 : decode cX2_revised 102 = .ok (.iadd, 1) := by decide +kernel
theorem dX2_revised_103 : decode cX2_revised 103 = .ok (.istore 4, 2) := by decide +kernel
theorem dX2_revised_105 : decode cX2_revised 105 = .ok (.aload 6, 2) := by decide +kernel
theorem dX2_revised_107 : decode cX2_revised 107 = .ok (.getfield 76, 3) := by decide +kernel
theorem dX2_revised_110 : decode cX2_revised 110 = .ok (.istore 5, 2) := by decide +kernel
theorem dX2_revised_112 : decode cX2_revised 112 = .ok (.aload 6, 2) := by decide +kernel
theorem dX2_revised_114 : decode cX2_revised 114 = .ok (.getfield 87, 3) := by decide +kernel
theorem dX2_revised_117 : decode cX2_revised 117 = .ok (.astore 6, 2) := by decide +kernel
theorem dX2_revised_119 : decode cX2_revised 119 = .ok (.goto (-83), 3) := by decide +kernel
theorem dX2_revised_122 : decode cX2_revised 122 = .ok (.iload 4, 2) := by decide +kernel
theorem dX2_revised_124 : decode cX2_revised 124 = .ok (.ireturn, 1) := by decide +kernel
set_option maxRecDepth 20000 in
theorem ggX2_take_X2_requireRange : GoodIn wsX2_take wsX2_requireRange := goodIn_ca (goodIn_r _ [5, 6, 7] (by decide +kernel) (by decide +kernel)) (goodIn_sub (fun _ h => List.mem_cons_of_mem _ (List.mem_append_right _ h)) (by decide +kernel))
set_option maxRecDepth 20000 in
theorem gX2_take_X2_requireRange : GoodIn wsX2_take (va_wsS RX2 39 yX2_requireRange wsX2_requireRange) := goodIn_app (goodIn_of _ (by decide +kernel)) ggX2_take_X2_requireRange
set_option maxRecDepth 20000 in
theorem ggX2_take_X2_rowOrNull : GoodIn wsX2_take wsX2_rowOrNull := goodIn_r _ [11, 12, 13, 25, 26, 27, 28, 29, 30, 31, 32, 33] (by decide +kernel) (by decide +kernel)
set_option maxRecDepth 20000 in
theorem gX2_take_X2_rowOrNull : GoodIn wsX2_take (wsV RX2 105 RX2 yX2_rowOrNull wsX2_rowOrNull) := goodIn_app (goodIn_of _ (by decide +kernel)) ggX2_take_X2_rowOrNull
set_option maxRecDepth 20000 in
theorem ggX2_take_X2_takeIn : GoodIn wsX2_take wsX2_takeIn := goodIn_r _ [17, 18, 19, 20, 21, 22, 23, 4, 24, 34, 35, 36, 37, 38, 39, 40, 25, 26, 27, 28, 29, 30, 31, 32, 33] (by decide +kernel) (by decide +kernel)
set_option maxRecDepth 20000 in
theorem gX2_take_X2_takeIn : GoodIn wsX2_take (wsV RX2 108 RX2 yX2_takeIn wsX2_takeIn) := goodIn_app (goodIn_of _ (by decide +kernel)) ggX2_take_X2_takeIn
theorem dX2_take_0 : decode cX2_take 0 = .ok (.iload_n 1, 1) := by decide +kernel
theorem dX2_take_1 : decode cX2_take 1 = .ok (.iconst 1, 1) := by decide +kernel
theorem dX2_take_2 : decode cX2_take 2 = .ok (.sipush 200, 3) := by decide +kernel
theorem dX2_take_5 : decode cX2_take 5 = .ok (.invokestatic 39, 3) := by decide +kernel
theorem dX2_take_8 : decode cX2_take 8 = .ok (.iconst 0, 1) := by decide +kernel
theorem dX2_take_9 : decode cX2_take 9 = .ok (.istore_n 2, 1) := by decide +kernel
theorem dX2_take_10 : decode cX2_take 10 = .ok (.aload_n 0, 1) := by decide +kernel
theorem dX2_take_11 : decode cX2_take 11 = .ok (.aload_n 0, 1) := by decide +kernel
theorem dX2_take_12 : decode cX2_take 12 = .ok (.getfield 102, 3) := by decide +kernel
theorem dX2_take_15 : decode cX2_take 15 = .ok (.invokevirtual 105, 3) := by decide +kernel
theorem dX2_take_18 : decode cX2_take 18 = .ok (.astore_n 3, 1) := by decide +kernel
theorem dX2_take_19 : decode cX2_take 19 = .ok (.iload_n 2, 1) := by decide +kernel
theorem dX2_take_20 : decode cX2_take 20 = .ok (.iload_n 1, 1) := by decide +kernel
theorem dX2_take_21 : decode cX2_take 21 = .ok (.if_icmp .ge 37, 3) := by decide +kernel
theorem dX2_take_24 : decode cX2_take 24 = .ok (.aload_n 3, 1) := by decide +kernel
theorem dX2_take_25 : decode cX2_take 25 = .ok (.ifnull 33, 3) := by decide +kernel
theorem dX2_take_28 : decode cX2_take 28 = .ok (.aload_n 0, 1) := by decide +kernel
theorem dX2_take_29 : decode cX2_take 29 = .ok (.aload_n 3, 1) := by decide +kernel
theorem dX2_take_30 : decode cX2_take 30 = .ok (.invokevirtual 108, 3) := by decide +kernel
theorem dX2_take_33 : decode cX2_take 33 = .ok (.aload_n 0, 1) := by decide +kernel
theorem dX2_take_34 : decode cX2_take 34 = .ok (.dup, 1) := by decide +kernel
theorem dX2_take_35 : decode cX2_take 35 = .ok (.getfield 102, 3) := by decide +kernel
theorem dX2_take_38 : decode cX2_take 38 = .ok (.iconst 1, 1) := by decide +kernel
theorem dX2_take_39 : decode cX2_take 39 = .ok (.iadd, 1) := by decide +kernel
theorem dX2_take_40 : decode cX2_take 40 = .ok (.putfield 102, 3) := by decide +kernel
theorem dX2_take_43 : decode cX2_take 43 = .ok (.iinc 2 1, 3) := by decide +kernel
theorem dX2_take_46 : decode cX2_take 46 = .ok (.aload_n 0, 1) := by decide +kernel
theorem dX2_take_47 : decode cX2_take 47 = .ok (.aload_n 0, 1) := by decide +kernel
theorem dX2_take_48 : decode cX2_take 48 = .ok (.getfield 102, 3) := by decide +kernel
theorem dX2_take_51 : decode cX2_take 51 = .ok (.invokevirtual 105, 3) := by decide +kernel
theorem dX2_take_54 : decode cX2_take 54 = .ok (.astore_n 3, 1) := by decide +kernel
theorem dX2_take_55 : decode cX2_take 55 = .ok (.goto (-36), 3) := by decide +kernel
theorem dX2_take_58 : decode cX2_take 58 = .ok (.iload_n 2, 1) := by decide +kernel
theorem dX2_take_59 : decode cX2_take 59 = .ok (.ireturn, 1) := by decide +kernel
theorem dX2_lag_0 : decode cX2_lag 0 = .ok (.aload_n 0, 1) := by decide +kernel
theorem dX2_lag_1 : decode cX2_lag 1 = .ok (.getfield 44, 3) := by decide +kernel
theorem dX2_lag_4 : decode cX2_lag 4 = .ok (.aload_n 0, 1) := by decide +kernel
theorem dX2_lag_5 : decode cX2_lag 5 = .ok (.getfield 102, 3) := by decide +kernel
theorem dX2_lag_8 : decode cX2_lag 8 = .ok (.isub, 1) := by decide +kernel
theorem dX2_lag_9 : decode cX2_lag 9 = .ok (.ireturn, 1) := by decide +kernel
set_option maxRecDepth 20000 in
theorem ggX2_online_X2_requirePair : GoodIn wsX2_online wsX2_requirePair := goodIn_ca (goodIn_r _ [4, 5, 6, 3, 7, 8, 9] (by decide +kernel) (by decide +kernel)) (goodIn_sub (fun _ h => List.mem_cons_of_mem _ (List.mem_append_right _ h)) (by decide +kernel))
set_option maxRecDepth 20000 in
theorem gX2_online_X2_requirePair : GoodIn wsX2_online (va_wsS RX2 31 yX2_requirePair wsX2_requirePair) := goodIn_app (goodIn_of _ (by decide +kernel)) ggX2_online_X2_requirePair
set_option maxRecDepth 20000 in
theorem ggX2_online_X2_tell : GoodIn wsX2_online wsX2_tell := goodIn_r _ [13, 14, 15, 16, 17, 3, 18, 19, 20, 21, 22, 23, 24, 25, 26, 27, 28, 29, 30, 31, 32, 33, 34, 35, 36, 37, 38, 39, 40, 41, 42] (by decide +kernel) (by decide +kernel)
set_option maxRecDepth 20000 in
theorem gX2_online_X2_tell : GoodIn wsX2_online (wsV RX2 111 RX2 yX2_tell wsX2_tell) := goodIn_app (goodIn_of _ (by decide +kernel)) ggX2_online_X2_tell
theorem dX2_online_0 : decode cX2_online 0 = .ok (.iload_n 1, 1) := by decide +kernel
theorem dX2_online_1 : decode cX2_online 1 = .ok (.iload_n 2, 1) := by decide +kernel
theorem dX2_online_2 : decode cX2_online 2 = .ok (.invokestatic 31, 3) := by decide +kernel
theorem dX2_online_5 : decode cX2_online 5 = .ok (.aload_n 0, 1) := by decide +kernel
theorem dX2_online_6 : decode cX2_online 6 = .ok (.iload_n 1, 1) := by decide +kernel
theorem dX2_online_7 : decode cX2_online 7 = .ok (.iload_n 2, 1) := by decide +kernel
theorem dX2_online_8 : decode cX2_online 8 = .ok (.invokevirtual 111, 3) := by decide +kernel
theorem dX2_online_11 : decode cX2_online 11 = .ok (.ireturn, 1) := by decide +kernel
set_option maxRecDepth 20000 in
theorem ggX2_skew_X2_tell : GoodIn wsX2_skew wsX2_tell := goodIn_r _ [6, 7, 1, 8, 9, 5, 10, 11, 12, 13, 14, 15, 16, 17, 18, 26, 27, 28, 29, 30, 31, 32, 33, 34, 35, 36, 37, 38, 39, 40, 41] (by decide +kernel) (by decide +kernel)
set_option maxRecDepth 20000 in
theorem gX2_skew_X2_tell : GoodIn wsX2_skew (wsV RX2 111 RX2 yX2_tell wsX2_tell) := goodIn_app (goodIn_of _ (by decide +kernel)) ggX2_skew_X2_tell
set_option maxRecDepth 20000 in
theorem ggX2_skew_X2_find : GoodIn wsX2_skew wsX2_find := goodIn_r _ [22, 23, 15, 24, 25, 8, 9, 5, 10, 11, 12, 13, 14, 16, 17, 18, 26, 27, 28, 29, 30, 31, 32, 33, 34, 35, 36, 37, 38, 39, 40, 41] (by decide +kernel) (by decide +kernel)
set_option maxRecDepth 20000 in
theorem gX2_skew_X2_find : GoodIn wsX2_skew (wsV RX2 79 RX2 yX2_find wsX2_find) := goodIn_app (goodIn_of _ (by decide +kernel)) ggX2_skew_X2_find
theorem dX2_skew_0 : decode cX2_skew 0 = .ok (.iconst 0, 1) := by decide +kernel
theorem dX2_skew_1 : decode cX2_skew 1 = .ok (.istore_n 1, 1) := by decide +kernel
theorem dX2_skew_2 : decode cX2_skew 2 = .ok (.iconst 0, 1) := by decide +kernel
theorem dX2_skew_3 : decode cX2_skew 3 = .ok (.istore_n 2, 1) := by decide +kernel
theorem dX2_skew_4 : decode cX2_skew 4 = .ok (.iload_n 2, 1) := by decide +kernel
theorem dX2_skew_5 : decode cX2_skew 5 = .ok (.bipush 6, 2) := by decide +kernel
theorem dX2_skew_7 : decode cX2_skew 7 = .ok (.if_icmp .ge 49, 3) := by decide +kernel
theorem dX2_skew_10 : decode cX2_skew 10 = .ok (.iconst 0, 1) := by decide +kernel
theorem dX2_skew_11 : decode cX2_skew 11 = .ok (.istore_n 3, 1) := by decide +kernel
theorem dX2_skew_12 : decode cX2_skew 12 = .ok (.iload_n 3, 1) := by decide +kernel
theorem dX2_skew_13 : decode cX2_skew 13 = .ok (.bipush 10, 2) := by decide +kernel
theorem dX2_skew_15 : decode cX2_skew 15 = .ok (.if_icmp .ge 35, 3) := by decide +kernel
theorem dX2_skew_18 : decode cX2_skew 18 = .ok (.aload_n 0, 1) := by decide +kernel
theorem dX2_skew_19 : decode cX2_skew 19 = .ok (.iload_n 2, 1) := by decide +kernel
theorem dX2_skew_20 : decode cX2_skew 20 = .ok (.iload_n 3, 1) := by decide +kernel
theorem dX2_skew_21 : decode cX2_skew 21 = .ok (.invokevirtual 111, 3) := by decide +kernel
theorem dX2_skew_24 : decode cX2_skew 24 = .ok (.aload_n 0, 1) := by decide +kernel
theorem dX2_skew_25 : decode cX2_skew 25 = .ok (.iload_n 2, 1) := by decide +kernel
theorem dX2_skew_26 : decode cX2_skew 26 = .ok (.iload_n 3, 1) := by decide +kernel
theorem dX2_skew_27 : decode cX2_skew 27 = .ok (.aload_n 0, 1) := by decide +kernel
theorem dX2_skew_28 : decode cX2_skew 28 = .ok (.getfield 35, 3) := by decide +kernel
theorem dX2_skew_31 : decode cX2_skew 31 = .ok (.aload_n 0, 1) := by decide +kernel
theorem dX2_skew_32 : decode cX2_skew 32 = .ok (.getfield 35, 3) := by decide +kernel
theorem dX2_skew_35 : decode cX2_skew 35 = .ok (.invokevirtual 79, 3) := by decide +kernel
theorem dX2_skew_38 : decode cX2_skew 38 = .ok (.if_icmp .eq 6, 3) := by decide +kernel
theorem dX2_skew_41 : decode cX2_skew 41 = .ok (.iinc 1 1, 3) := by decide +kernel
theorem dX2_skew_44 : decode cX2_skew 44 = .ok (.iinc 3 1, 3) := by decide +kernel
theorem dX2_skew_47 : decode cX2_skew 47 = .ok (.goto (-35), 3) := by decide +kernel
theorem dX2_skew_50 : decode cX2_skew 50 = .ok (.iinc 2 1, 3) := by decide +kernel
theorem dX2_skew_53 : decode cX2_skew 53 = .ok (.goto (-49), 3) := by decide +kernel
theorem dX2_skew_56 : decode cX2_skew 56 = .ok (.iload_n 1, 1) := by decide +kernel
theorem dX2_skew_57 : decode cX2_skew 57 = .ok (.ireturn, 1) := by decide +kernel
set_option maxRecDepth 20000 in
theorem ggX2_serve_X2_requirePair : GoodIn wsX2_serve wsX2_requirePair := goodIn_ca (goodIn_r _ [12, 13, 14, 11, 15, 16, 17] (by decide +kernel) (by decide +kernel)) (goodIn_sub (fun _ h => List.mem_cons_of_mem _ (List.mem_append_right _ h)) (by decide +kernel))
set_option maxRecDepth 20000 in
theorem gX2_serve_X2_requirePair : GoodIn wsX2_serve (va_wsS RX2 31 yX2_requirePair wsX2_requirePair) := goodIn_app (goodIn_of _ (by decide +kernel)) ggX2_serve_X2_requirePair
set_option maxRecDepth 20000 in
theorem ggX2_serve_X2_tell : GoodIn wsX2_serve wsX2_tell := goodIn_r _ [21, 22, 8, 23, 24, 11, 25, 26, 27, 28, 29, 30, 31, 32, 33, 44, 45, 46, 47, 48, 49, 50, 51, 52, 57, 58, 59, 60, 61, 62, 63] (by decide +kernel) (by decide +kernel)
set_option maxRecDepth 20000 in
theorem gX2_serve_X2_tell : GoodIn wsX2_serve (wsV RX2 111 RX2 yX2_tell wsX2_tell) := goodIn_app (goodIn_of _ (by decide +kernel)) ggX2_serve_X2_tell
set_option maxRecDepth 20000 in
theorem ggX2_serve_X1_init : GoodIn wsX2_serve wsX1_init := goodIn_r _ [36, 37, 38, 39, 40, 41, 42, 43, 53, 54, 55, 56] (by decide +kernel) (by decide +kernel)
set_option maxRecDepth 20000 in
theorem gX2_serve_X1_init : GoodIn wsX2_serve (wsX1_init) := ggX2_serve_X1_init
theorem dX2_serve_0 : decode cX2_serve 0 = .ok (.iload_n 1, 1) := by decide +kernel
theorem dX2_serve_1 : decode cX2_serve 1 = .ok (.iload_n 2, 1) := by decide +kernel
theorem dX2_serve_2 : decode cX2_serve 2 = .ok (.invokestatic 31, 3) := by decide +kernel
theorem dX2_serve_5 : decode cX2_serve 5 = .ok (.aload_n 0, 1) := by decide +kernel
theorem dX2_serve_6 : decode cX2_serve 6 = .ok (.getfield 114, 3) := by decide +kernel
theorem dX2_serve_9 : decode cX2_serve 9 = .ok (.sipush 200, 3) := by decide +kernel
theorem dX2_serve_12 : decode cX2_serve 12 = .ok (.if_icmp .lt 13, 3) := by decide +kernel
theorem dX2_serve_15 : decode cX2_serve 15 = .ok (.new 47, 3) := by decide +kernel
theorem dX2_serve_18 : decode cX2_serve 18 = .ok (.dup, 1) := by decide +kernel
theorem dX2_serve_19 : decode cX2_serve 19 = .ok (.ldc 117, 2) := by decide +kernel
theorem dX2_serve_21 : decode cX2_serve 21 = .ok (.invokespecial 51, 3) := by decide +kernel
theorem dX2_serve_24 : decode cX2_serve 24 = .ok (.athrow, 1) := by decide +kernel
theorem dX2_serve_25 : decode cX2_serve 25 = .ok (.aload_n 0, 1) := by decide +kernel
theorem dX2_serve_26 : decode cX2_serve 26 = .ok (.iload_n 1, 1) := by decide +kernel
theorem dX2_serve_27 : decode cX2_serve 27 = .ok (.iload_n 2, 1) := by decide +kernel
theorem dX2_serve_28 : decode cX2_serve 28 = .ok (.invokevirtual 111, 3) := by decide +kernel
theorem dX2_serve_31 : decode cX2_serve 31 = .ok (.istore_n 3, 1) := by decide +kernel
theorem dX2_serve_32 : decode cX2_serve 32 = .ok (.aload_n 0, 1) := by decide +kernel
theorem dX2_serve_33 : decode cX2_serve 33 = .ok (.getfield 27, 3) := by decide +kernel
theorem dX2_serve_36 : decode cX2_serve 36 = .ok (.aload_n 0, 1) := by decide +kernel
theorem dX2_serve_37 : decode cX2_serve 37 = .ok (.getfield 114, 3) := by decide +kernel
theorem dX2_serve_40 : decode cX2_serve 40 = .ok (.new 25, 3) := by decide +kernel
theorem dX2_serve_43 : decode cX2_serve 43 = .ok (.dup, 1) := by decide +kernel
theorem dX2_serve_44 : decode cX2_serve 44 = .ok (.iload_n 1, 1) := by decide +kernel
theorem dX2_serve_45 : decode cX2_serve 45 = .ok (.iload_n 2, 1) := by decide +kernel
theorem dX2_serve_46 : decode cX2_serve 46 = .ok (.aload_n 0, 1) := by decide +kernel
theorem dX2_serve_47 : decode cX2_serve 47 = .ok (.getfield 35, 3) := by decide +kernel
theorem dX2_serve_50 : decode cX2_serve 50 = .ok (.iload_n 3, 1) := by decide +kernel
theorem dX2_serve_51 : decode cX2_serve 51 = .ok (.invokespecial 119, 3) := by decide +kernel
theorem dX2_serve_54 : decode cX2_serve 54 = .ok (.aastore, 1) := by decide +kernel
theorem dX2_serve_55 : decode cX2_serve 55 = .ok (.aload_n 0, 1) := by decide +kernel
theorem dX2_serve_56 : decode cX2_serve 56 = .ok (.dup, 1) := by decide +kernel
theorem dX2_serve_57 : decode cX2_serve 57 = .ok (.getfield 114, 3) := by decide +kernel
theorem dX2_serve_60 : decode cX2_serve 60 = .ok (.iconst 1, 1) := by decide +kernel
theorem dX2_serve_61 : decode cX2_serve 61 = .ok (.iadd, 1) := by decide +kernel
theorem dX2_serve_62 : decode cX2_serve 62 = .ok (.putfield 114, 3) := by decide +kernel
theorem dX2_serve_65 : decode cX2_serve 65 = .ok (.iload_n 3, 1) := by decide +kernel
theorem dX2_serve_66 : decode cX2_serve 66 = .ok (.ireturn, 1) := by decide +kernel
theorem dX2_servings_0 : decode cX2_servings 0 = .ok (.aload_n 0, 1) := by decide +kernel
theorem dX2_servings_1 : decode cX2_servings 1 = .ok (.getfield 114, 3) := by decide +kernel
theorem dX2_servings_4 : decode cX2_servings 4 = .ok (.ireturn, 1) := by decide +kernel
set_option maxRecDepth 20000 in
theorem ggX2_served_X2_requireServing : GoodIn wsX2_served wsX2_requireServing := goodIn_ca (goodIn_r _ [6, 7, 8, 9, 10, 15, 16, 17, 18, 19, 20, 21, 22, 23] (by decide +kernel) (by decide +kernel)) (goodIn_sub (fun _ h => List.mem_cons_of_mem _ (List.mem_append_right _ h)) (by decide +kernel))
set_option maxRecDepth 20000 in
theorem gX2_served_X2_requireServing : GoodIn wsX2_served (wsV RX2 122 RX2 yX2_requireServing wsX2_requireServing) := goodIn_app (goodIn_of _ (by decide +kernel)) ggX2_served_X2_requireServing
theorem dX2_served_0 : decode cX2_served 0 = .ok (.aload_n 0, 1) := by decide +kernel
theorem dX2_served_1 : decode cX2_served 1 = .ok (.iload_n 1, 1) := by decide +kernel
theorem dX2_served_2 : decode cX2_served 2 = .ok (.invokevirtual 122, 3) := by decide +kernel
theorem dX2_served_5 : decode cX2_served 5 = .ok (.getfield 126, 3) := by decide +kernel
theorem dX2_served_8 : decode cX2_served 8 = .ok (.ireturn, 1) := by decide +kernel
set_option maxRecDepth 20000 in
theorem ggX2_isSound_X2_requireServing : GoodIn wsX2_isSound wsX2_requireServing := goodIn_ca (goodIn_r _ [9, 10, 11, 12, 13, 36, 37, 38, 39, 40, 41, 42, 43, 44] (by decide +kernel) (by decide +kernel)) (goodIn_sub (fun _ h => List.mem_cons_of_mem _ (List.mem_append_right _ h)) (by decide +kernel))
set_option maxRecDepth 20000 in
theorem gX2_isSound_X2_requireServing : GoodIn wsX2_isSound (wsV RX2 122 RX2 yX2_requireServing wsX2_requireServing) := goodIn_app (goodIn_of _ (by decide +kernel)) ggX2_isSound_X2_requireServing
set_option maxRecDepth 20000 in
theorem ggX2_isSound_X2_find : GoodIn wsX2_isSound wsX2_find := goodIn_r _ [17, 18, 19, 20, 21, 22, 23, 8, 24, 25, 26, 27, 28, 29, 30, 31, 36, 37, 38, 39, 40, 41, 42, 43, 44, 45, 46, 47, 48, 49, 50, 51] (by decide +kernel) (by decide +kernel)
set_option maxRecDepth 20000 in
theorem gX2_isSound_X2_find : GoodIn wsX2_isSound (wsV RX2 79 RX2 yX2_find wsX2_find) := goodIn_app (goodIn_of _ (by decide +kernel)) ggX2_isSound_X2_find
theorem dX2_isSound_0 : decode cX2_isSound 0 = .ok (.aload_n 0, 1) := by decide +kernel
theorem dX2_isSound_1 : decode cX2_isSound 1 = .ok (.iload_n 1, 1) := by decide +kernel
theorem dX2_isSound_2 : decode cX2_isSound 2 = .ok (.invokevirtual 122, 3) := by decide +kernel
theorem dX2_isSound_5 : decode cX2_isSound 5 = .ok (.astore_n 2, 1) := by decide +kernel
theorem dX2_isSound_6 : decode cX2_isSound 6 = .ok (.aload_n 2, 1) := by decide +kernel
theorem dX2_isSound_7 : decode cX2_isSound 7 = .ok (.getfield 126, 3) := by decide +kernel
theorem dX2_isSound_10 : decode cX2_isSound 10 = .ok (.aload_n 0, 1) := by decide +kernel
theorem dX2_isSound_11 : decode cX2_isSound 11 = .ok (.aload_n 2, 1) := by decide +kernel
theorem dX2_isSound_12 : decode cX2_isSound 12 = .ok (.getfield 129, 3) := by decide +kernel
theorem dX2_isSound_15 : decode cX2_isSound 15 = .ok (.aload_n 2, 1) := by decide +kernel
theorem dX2_isSound_16 : decode cX2_isSound 16 = .ok (.getfield 132, 3) := by decide +kernel
theorem dX2_isSound_19 : decode cX2_isSound 19 = .ok (.aload_n 2, 1) := by decide +kernel
theorem dX2_isSound_20 : decode cX2_isSound 20 = .ok (.getfield 135, 3) := by decide +kernel
theorem dX2_isSound_23 : decode cX2_isSound 23 = .ok (.aload_n 2, 1) := by decide +kernel
theorem dX2_isSound_24 : decode cX2_isSound 24 = .ok (.getfield 135, 3) := by decide +kernel
theorem dX2_isSound_27 : decode cX2_isSound 27 = .ok (.invokevirtual 79, 3) := by decide +kernel
theorem dX2_isSound_30 : decode cX2_isSound 30 = .ok (.if_icmp .ne 7, 3) := by decide +kernel
theorem dX2_isSound_33 : decode cX2_isSound 33 = .ok (.iconst 1, 1) := by decide +kernel
theorem dX2_isSound_34 : decode cX2_isSound 34 = .ok (.goto 4, 3) := by decide +kernel
theorem dX2_isSound_37 : decode cX2_isSound 37 = .ok (.iconst 0, 1) := by decide +kernel
theorem dX2_isSound_38 : decode cX2_isSound 38 = .ok (.ireturn, 1) := by decide +kernel
set_option maxRecDepth 20000 in
theorem ggX2_unsound_X2_isSound : GoodIn wsX2_unsound wsX2_isSound := goodIn_ca (goodIn_r _ [6, 7, 8, 9, 10, 11, 12, 13, 5, 14, 15, 16, 1, 17, 18, 19, 20, 21, 22, 23, 24, 25, 26, 27, 28, 29, 30, 31, 32, 33, 34, 35, 45, 46, 47, 48, 36, 37, 38, 39, 40, 41, 42, 43, 44, 49, 50, 51, 52, 53, 54, 55] (by decide +kernel) (by decide +kernel)) (goodIn_sub (fun _ h => List.mem_cons_of_mem _ (List.mem_append_right _ h)) (by decide +kernel))
set_option maxRecDepth 20000 in
theorem gX2_unsound_X2_isSound : GoodIn wsX2_unsound (wsV RX2 138 RX2 yX2_isSound wsX2_isSound) := goodIn_app (goodIn_of _ (by decide +kernel)) ggX2_unsound_X2_isSound
theorem dX2_unsound_0 : decode cX2_unsound 0 = .ok (.iconst 0, 1) := by decide +kernel
theorem dX2_unsound_1 : decode cX2_unsound 1 = .ok (.istore_n 1, 1) := by decide +kernel
theorem dX2_unsound_2 : decode cX2_unsound 2 = .ok (.iconst 0, 1) := by decide +kernel
theorem dX2_unsound_3 : decode cX2_unsound 3 = .ok (.istore_n 2, 1) := by decide +kernel
theorem dX2_unsound_4 : decode cX2_unsound 4 = .ok (.iload_n 2, 1) := by decide +kernel
theorem dX2_unsound_5 : decode cX2_unsound 5 = .ok (.aload_n 0, 1) := by decide +kernel
theorem dX2_unsound_6 : decode cX2_unsound 6 = .ok (.getfield 114, 3) := by decide +kernel
theorem dX2_unsound_9 : decode cX2_unsound 9 = .ok (.if_icmp .ge 20, 3) := by decide +kernel
theorem dX2_unsound_12 : decode cX2_unsound 12 = .ok (.aload_n 0, 1) := by decide +kernel
theorem dX2_unsound_13 : decode cX2_unsound 13 = .ok (.iload_n 2, 1) := by decide +kernel
theorem dX2_unsound_14 : decode cX2_unsound 14 = .ok (.invokevirtual 138, 3) := by decide +kernel
theorem dX2_unsound_17 : decode cX2_unsound 17 = .ok (.ifCond .ne 6, 3) := by decide +kernel
theorem dX2_unsound_20 : decode cX2_unsound 20 = .ok (.iinc 1 1, 3) := by decide +kernel
theorem dX2_unsound_23 : decode cX2_unsound 23 = .ok (.iinc 2 1, 3) := by decide +kernel
theorem dX2_unsound_26 : decode cX2_unsound 26 = .ok (.goto (-22), 3) := by decide +kernel
theorem dX2_unsound_29 : decode cX2_unsound 29 = .ok (.iload_n 1, 1) := by decide +kernel
theorem dX2_unsound_30 : decode cX2_unsound 30 = .ok (.ireturn, 1) := by decide +kernel
theorem dX2_requireRange_0 : decode cX2_requireRange 0 = .ok (.iload_n 0, 1) := by decide +kernel
theorem dX2_requireRange_1 : decode cX2_requireRange 1 = .ok (.iload_n 1, 1) := by decide +kernel
theorem dX2_requireRange_2 : decode cX2_requireRange 2 = .ok (.if_icmp .lt 8, 3) := by decide +kernel
theorem dX2_requireRange_5 : decode cX2_requireRange 5 = .ok (.iload_n 0, 1) := by decide +kernel
theorem dX2_requireRange_6 : decode cX2_requireRange 6 = .ok (.iload_n 2, 1) := by decide +kernel
theorem dX2_requireRange_7 : decode cX2_requireRange 7 = .ok (.if_icmp .le 13, 3) := by decide +kernel
theorem dX2_requireRange_10 : decode cX2_requireRange 10 = .ok (.new 142, 3) := by decide +kernel
theorem dX2_requireRange_13 : decode cX2_requireRange 13 = .ok (.dup, 1) := by decide +kernel
theorem dX2_requireRange_14 : decode cX2_requireRange 14 = .ok (.ldc 144, 2) := by decide +kernel
theorem dX2_requireRange_16 : decode cX2_requireRange 16 = .ok (.invokespecial 146, 3) := by decide +kernel
theorem dX2_requireRange_19 : decode cX2_requireRange 19 = .ok (.athrow, 1) := by decide +kernel
theorem dX2_requireRange_20 : decode cX2_requireRange 20 = .ok (.return_, 1) := by decide +kernel
set_option maxRecDepth 20000 in
theorem ggX2_requirePair_X2_requireRange : GoodIn wsX2_requirePair wsX2_requireRange := goodIn_ca (goodIn_r _ [4, 5, 6] (by decide +kernel) (by decide +kernel)) (goodIn_sub (fun _ h => List.mem_cons_of_mem _ (List.mem_append_right _ h)) (by decide +kernel))
set_option maxRecDepth 20000 in
theorem gX2_requirePair_X2_requireRange : GoodIn wsX2_requirePair (va_wsS RX2 39 yX2_requireRange wsX2_requireRange) := goodIn_app (goodIn_of _ (by decide +kernel)) ggX2_requirePair_X2_requireRange
theorem dX2_requirePair_0 : decode cX2_requirePair 0 = .ok (.iload_n 0, 1) := by decide +kernel
theorem dX2_requirePair_1 : decode cX2_requirePair 1 = .ok (.iconst 0, 1) := by decide +kernel
theorem dX2_requirePair_2 : decode cX2_requirePair 2 = .ok (.iconst 5, 1) := by decide +kernel
theorem dX2_requirePair_3 : decode cX2_requirePair 3 = .ok (.invokestatic 39, 3) := by decide +kernel
theorem dX2_requirePair_6 : decode cX2_requirePair 6 = .ok (.iload_n 1, 1) := by decide +kernel
theorem dX2_requirePair_7 : decode cX2_requirePair 7 = .ok (.iconst 0, 1) := by decide +kernel
theorem dX2_requirePair_8 : decode cX2_requirePair 8 = .ok (.bipush 9, 2) := by decide +kernel
theorem dX2_requirePair_10 : decode cX2_requirePair 10 = .ok (.invokestatic 39, 3) := by decide +kernel
theorem dX2_requirePair_13 : decode cX2_requirePair 13 = .ok (.return_, 1) := by decide +kernel
set_option maxRecDepth 20000 in
theorem ggX2_requireRow_X2_rowOrNull : GoodIn wsX2_requireRow wsX2_rowOrNull := goodIn_r _ [7, 8, 9, 10, 11, 12, 13, 14, 15, 16, 17, 18] (by decide +kernel) (by decide +kernel)
set_option maxRecDepth 20000 in
theorem gX2_requireRow_X2_rowOrNull : GoodIn wsX2_requireRow (wsV RX2 105 RX2 yX2_rowOrNull wsX2_rowOrNull) := goodIn_app (goodIn_of _ (by decide +kernel)) ggX2_requireRow_X2_rowOrNull
theorem dX2_requireRow_0 : decode cX2_requireRow 0 = .ok (.aload_n 0, 1) := by decide +kernel
theorem dX2_requireRow_1 : decode cX2_requireRow 1 = .ok (.iload_n 1, 1) := by decide +kernel
theorem dX2_requireRow_2 : decode cX2_requireRow 2 = .ok (.invokevirtual 105, 3) := by decide +kernel
theorem dX2_requireRow_5 : decode cX2_requireRow 5 = .ok (.astore_n 2, 1) := by decide +kernel
theorem dX2_requireRow_6 : decode cX2_requireRow 6 = .ok (.aload_n 2, 1) := by decide +kernel
theorem dX2_requireRow_7 : decode cX2_requireRow 7 = .ok (.ifnonnull 13, 3) := by decide +kernel
theorem dX2_requireRow_10 : decode cX2_requireRow 10 = .ok (.new 147, 3) := by decide +kernel
theorem dX2_requireRow_13 : decode cX2_requireRow 13 = .ok (.dup, 1) := by decide +kernel
theorem dX2_requireRow_14 : decode cX2_requireRow 14 = .ok (.ldc 149, 2) := by decide +kernel
theorem dX2_requireRow_16 : decode cX2_requireRow 16 = .ok (.invokespecial 151, 3) := by decide +kernel
theorem dX2_requireRow_19 : decode cX2_requireRow 19 = .ok (.athrow, 1) := by decide +kernel
theorem dX2_requireRow_20 : decode cX2_requireRow 20 = .ok (.aload_n 2, 1) := by decide +kernel
theorem dX2_requireRow_21 : decode cX2_requireRow 21 = .ok (.areturn, 1) := by decide +kernel
theorem dX2_requireServing_0 : decode cX2_requireServing 0 = .ok (.iload_n 1, 1) := by decide +kernel
theorem dX2_requireServing_1 : decode cX2_requireServing 1 = .ok (.ifCond .lt 20, 3) := by decide +kernel
theorem dX2_requireServing_4 : decode cX2_requireServing 4 = .ok (.iload_n 1, 1) := by decide +kernel
theorem dX2_requireServing_5 : decode cX2_requireServing 5 = .ok (.aload_n 0, 1) := by decide +kernel
theorem dX2_requireServing_6 : decode cX2_requireServing 6 = .ok (.getfield 114, 3) := by decide +kernel
theorem dX2_requireServing_9 : decode cX2_requireServing 9 = .ok (.if_icmp .ge 12, 3) := by decide +kernel
theorem dX2_requireServing_12 : decode cX2_requireServing 12 = .ok (.aload_n 0, 1) := by decide +kernel
theorem dX2_requireServing_13 : decode cX2_requireServing 13 = .ok (.getfield 27, 3) := by decide +kernel
theorem dX2_requireServing_16 : decode cX2_requireServing 16 = .ok (.iload_n 1, 1) := by decide +kernel
theorem dX2_requireServing_17 : decode cX2_requireServing 17 = .ok (.aaload, 1) := by decide +kernel
theorem dX2_requireServing_18 : decode cX2_requireServing 18 = .ok (.ifnonnull 13, 3) := by decide +kernel
theorem dX2_requireServing_21 : decode cX2_requireServing 21 = .ok (.new 147, 3) := by decide +kernel
theorem dX2_requireServing_24 : decode cX2_requireServing 24 = .ok (.dup, 1) := by decide +kernel
theorem dX2_requireServing_25 : decode cX2_requireServing 25 = .ok (.ldc 152, 2) := by decide +kernel
theorem dX2_requireServing_27 : decode cX2_requireServing 27 = .ok (.invokespecial 151, 3) := by decide +kernel
theorem dX2_requireServing_30 : decode cX2_requireServing 30 = .ok (.athrow, 1) := by decide +kernel
theorem dX2_requireServing_31 : decode cX2_requireServing 31 = .ok (.aload_n 0, 1) := by decide +kernel
theorem dX2_requireServing_32 : decode cX2_requireServing 32 = .ok (.getfield 27, 3) := by decide +kernel
theorem dX2_requireServing_35 : decode cX2_requireServing 35 = .ok (.iload_n 1, 1) := by decide +kernel
theorem dX2_requireServing_36 : decode cX2_requireServing 36 = .ok (.aaload, 1) := by decide +kernel
theorem dX2_requireServing_37 : decode cX2_requireServing 37 = .ok (.areturn, 1) := by decide +kernel
theorem dX2_rowOrNull_0 : decode cX2_rowOrNull 0 = .ok (.iload_n 1, 1) := by decide +kernel
theorem dX2_rowOrNull_1 : decode cX2_rowOrNull 1 = .ok (.ifCond .lt 20, 3) := by decide +kernel
theorem dX2_rowOrNull_4 : decode cX2_rowOrNull 4 = .ok (.iload_n 1, 1) := by decide +kernel
theorem dX2_rowOrNull_5 : decode cX2_rowOrNull 5 = .ok (.aload_n 0, 1) := by decide +kernel
theorem dX2_rowOrNull_6 : decode cX2_rowOrNull 6 = .ok (.getfield 44, 3) := by decide +kernel
theorem dX2_rowOrNull_9 : decode cX2_rowOrNull 9 = .ok (.if_icmp .ge 12, 3) := by decide +kernel
theorem dX2_rowOrNull_12 : decode cX2_rowOrNull 12 = .ok (.aload_n 0, 1) := by decide +kernel
theorem dX2_rowOrNull_13 : decode cX2_rowOrNull 13 = .ok (.getfield 15, 3) := by decide +kernel
theorem dX2_rowOrNull_16 : decode cX2_rowOrNull 16 = .ok (.iload_n 1, 1) := by decide +kernel
theorem dX2_rowOrNull_17 : decode cX2_rowOrNull 17 = .ok (.aaload, 1) := by decide +kernel
theorem dX2_rowOrNull_18 : decode cX2_rowOrNull 18 = .ok (.goto 4, 3) := by decide +kernel
theorem dX2_rowOrNull_21 : decode cX2_rowOrNull 21 = .ok (.aconst_null, 1) := by decide +kernel
theorem dX2_rowOrNull_22 : decode cX2_rowOrNull 22 = .ok (.areturn, 1) := by decide +kernel
theorem dX2_placeOf_0 : decode cX2_placeOf 0 = .ok (.iload_n 0, 1) := by decide +kernel
theorem dX2_placeOf_1 : decode cX2_placeOf 1 = .ok (.bipush 10, 2) := by decide +kernel
theorem dX2_placeOf_3 : decode cX2_placeOf 3 = .ok (.imul, 1) := by decide +kernel
theorem dX2_placeOf_4 : decode cX2_placeOf 4 = .ok (.iload_n 1, 1) := by decide +kernel
theorem dX2_placeOf_5 : decode cX2_placeOf 5 = .ok (.iadd, 1) := by decide +kernel
theorem dX2_placeOf_6 : decode cX2_placeOf 6 = .ok (.ireturn, 1) := by decide +kernel
set_option maxRecDepth 20000 in
theorem ggX2_putInChain_X2_placeOf : GoodIn wsX2_putInChain wsX2_placeOf := goodIn_r _ [9] (by decide +kernel) (by decide +kernel)
set_option maxRecDepth 20000 in
theorem gX2_putInChain_X2_placeOf : GoodIn wsX2_putInChain (va_wsS RX2 83 yX2_placeOf wsX2_placeOf) := goodIn_app (goodIn_of _ (by decide +kernel)) ggX2_putInChain_X2_placeOf
theorem dX2_putInChain_0 : decode cX2_putInChain 0 = .ok (.aload_n 1, 1) := by decide +kernel
theorem dX2_putInChain_1 : decode cX2_putInChain 1 = .ok (.getfield 154, 3) := by decide +kernel
theorem dX2_putInChain_4 : decode cX2_putInChain 4 = .ok (.aload_n 1, 1) := by decide +kernel
theorem dX2_putInChain_5 : decode cX2_putInChain 5 = .ok (.getfield 155, 3) := by decide +kernel
theorem dX2_putInChain_8 : decode cX2_putInChain 8 = .ok (.invokestatic 83, 3) := by decide +kernel
theorem dX2_putInChain_11 : decode cX2_putInChain 11 = .ok (.istore_n 2, 1) := by decide +kernel
theorem dX2_putInChain_12 : decode cX2_putInChain 12 = .ok (.aconst_null, 1) := by decide +kernel
theorem dX2_putInChain_13 : decode cX2_putInChain 13 = .ok (.astore_n 3, 1) := by decide +kernel
theorem dX2_putInChain_14 : decode cX2_putInChain 14 = .ok (.aload_n 0, 1) := by decide +kernel
theorem dX2_putInChain_15 : decode cX2_putInChain 15 = .ok (.getfield 19, 3) := by decide +kernel
theorem dX2_putInChain_18 : decode cX2_putInChain 18 = .ok (.iload_n 2, 1) := by decide +kernel
theorem dX2_putInChain_19 : decode cX2_putInChain 19 = .ok (.aaload, 1) := by decide +kernel
theorem dX2_putInChain_20 : decode cX2_putInChain 20 = .ok (.astore 4, 2) := by decide +kernel
theorem dX2_putInChain_22 : decode cX2_putInChain 22 = .ok (.aload 4, 2) := by decide +kernel
theorem dX2_putInChain_24 : decode cX2_putInChain 24 = .ok (.ifnull 28, 3) := by decide +kernel
theorem dX2_putInChain_27 : decode cX2_putInChain 27 = .ok (.aload 4, 2) := by decide +kernel
theorem dX2_putInChain_29 : decode cX2_putInChain 29 = .ok (.getfield 76, 3) := by decide +kernel
theorem dX2_putInChain_32 : decode cX2_putInChain 32 = .ok (.aload_n 1, 1) := by decide +kernel
theorem dX2_putInChain_33 : decode cX2_putInChain 33 = .ok (.getfield 76, 3) := by decide +kernel
theorem dX2_putInChain_36 : decode cX2_putInChain 36 = .ok (.if_icmp .le 16, 3) := by decide +kernel
theorem dX2_putInChain_39 : decode cX2_putInChain 39 = .ok (.aload 4, 2) := by decide +kernel
theorem dX2_putInChain_41 : decode cX2_putInChain 41 = .ok (.astore_n 3, 1) := by decide +kernel
theorem dX2_putInChain_42 : decode cX2_putInChain 42 = .ok (.aload 4, 2) := by decide +kernel
theorem dX2_putInChain_44 : decode cX2_putInChain 44 = .ok (.getfield 87, 3) := by decide +kernel
theorem dX2_putInChain_47 : decode cX2_putInChain 47 = .ok (.astore 4, 2) := by decide +kernel
theorem dX2_putInChain_49 : decode cX2_putInChain 49 = .ok (.goto (-27), 3) := by decide +kernel
theorem dX2_putInChain_52 : decode cX2_putInChain 52 = .ok (.aload_n 1, 1) := by decide +kernel
theorem dX2_putInChain_53 : decode cX2_putInChain 53 = .ok (.aload 4, 2) := by decide +kernel
theorem dX2_putInChain_55 : decode cX2_putInChain 55 = .ok (.putfield 87, 3) := by decide +kernel
theorem dX2_putInChain_58 : decode cX2_putInChain 58 = .ok (.aload_n 3, 1) := by decide +kernel
theorem dX2_putInChain_59 : decode cX2_putInChain 59 = .ok (.ifnonnull 13, 3) := by decide +kernel
theorem dX2_putInChain_62 : decode cX2_putInChain 62 = .ok (.aload_n 0, 1) := by decide +kernel
theorem dX2_putInChain_63 : decode cX2_putInChain 63 = .ok (.getfield 19, 3) := by decide +kernel
theorem dX2_putInChain_66 : decode cX2_putInChain 66 = .ok (.iload_n 2, 1) := by decide +kernel
theorem dX2_putInChain_67 : decode cX2_putInChain 67 = .ok (.aload_n 1, 1) := by decide +kernel
theorem dX2_putInChain_68 : decode cX2_putInChain 68 = .ok (.aastore, 1) := by decide +kernel
theorem dX2_putInChain_69 : decode cX2_putInChain 69 = .ok (.goto 8, 3) := by decide +kernel
theorem dX2_putInChain_72 : decode cX2_putInChain 72 = .ok (.aload_n 3, 1) := by decide +kernel
theorem dX2_putInChain_73 : decode cX2_putInChain 73 = .ok (.aload_n 1, 1) := by decide +kernel
theorem dX2_putInChain_74 : decode cX2_putInChain 74 = .ok (.putfield 87, 3) := by decide +kernel
theorem dX2_putInChain_77 : decode cX2_putInChain 77 = .ok (.return_, 1) := by decide +kernel
set_option maxRecDepth 20000 in
theorem ggX2_find_X2_placeOf : GoodIn wsX2_find wsX2_placeOf := goodIn_r _ [8] (by decide +kernel) (by decide +kernel)
set_option maxRecDepth 20000 in
theorem gX2_find_X2_placeOf : GoodIn wsX2_find (va_wsS RX2 83 yX2_placeOf wsX2_placeOf) := goodIn_app (goodIn_of _ (by decide +kernel)) ggX2_find_X2_placeOf
set_option maxRecDepth 20000 in
theorem ggX2_find_X2_numberUnlessExpired : GoodIn wsX2_find wsX2_numberUnlessExpired := goodIn_r _ [12, 2, 13, 14, 15, 25, 26, 27, 28, 29, 30, 31, 16, 17, 18, 19, 20, 21, 22, 23, 24] (by decide +kernel) (by decide +kernel)
set_option maxRecDepth 20000 in
theorem gX2_find_X2_numberUnlessExpired : GoodIn wsX2_find (wsV RX2 156 RX2 yX2_numberUnlessExpired wsX2_numberUnlessExpired) := goodIn_app (goodIn_of _ (by decide +kernel)) ggX2_find_X2_numberUnlessExpired
theorem dX2_find_0 : decode cX2_find 0 = .ok (.aload_n 0, 1) := by decide +kernel
theorem dX2_find_1 : decode cX2_find 1 = .ok (.getfield 19, 3) := by decide +kernel
theorem dX2_find_4 : decode cX2_find 4 = .ok (.iload_n 1, 1) := by decide +kernel
theorem dX2_find_5 : decode cX2_find 5 = .ok (.iload_n 2, 1) := by decide +kernel
theorem dX2_find_6 : decode cX2_find 6 = .ok (.invokestatic 83, 3) := by decide +kernel
theorem dX2_find_9 : decode cX2_find 9 = .ok (.aaload, 1) := by decide +kernel
theorem dX2_find_10 : decode cX2_find 10 = .ok (.astore 5, 2) := by decide +kernel
theorem dX2_find_12 : decode cX2_find 12 = .ok (.aload 5, 2) := by decide +kernel
theorem dX2_find_14 : decode cX2_find 14 = .ok (.ifnull 32, 3) := by decide +kernel
theorem dX2_find_17 : decode cX2_find 17 = .ok (.aload 5, 2) := by decide +kernel
theorem dX2_find_19 : decode cX2_find 19 = .ok (.getfield 76, 3) := by decide +kernel
theorem dX2_find_22 : decode cX2_find 22 = .ok (.iload_n 3, 1) := by decide +kernel
theorem dX2_find_23 : decode cX2_find 23 = .ok (.if_icmp .gt 13, 3) := by decide +kernel
theorem dX2_find_26 : decode cX2_find 26 = .ok (.aload 5, 2) := by decide +kernel
theorem dX2_find_28 : decode cX2_find 28 = .ok (.getfield 73, 3) := by decide +kernel
theorem dX2_find_31 : decode cX2_find 31 = .ok (.iload 4, 2) := by decide +kernel
theorem dX2_find_33 : decode cX2_find 33 = .ok (.if_icmp .le 13, 3) := by decide +kernel
theorem dX2_find_36 : decode cX2_find 36 = .ok (.aload 5, 2) := by decide +kernel
theorem dX2_find_38 : decode cX2_find 38 = .ok (.getfield 87, 3) := by decide +kernel
theorem dX2_find_41 : decode cX2_find 41 = .ok (.astore 5, 2) := by decide +kernel
theorem dX2_find_43 : decode cX2_find 43 = .ok (.goto (-31), 3) := by decide +kernel
theorem dX2_find_46 : decode cX2_find 46 = .ok (.aload_n 0, 1) := by decide +kernel
theorem dX2_find_47 : decode cX2_find 47 = .ok (.aload 5, 2) := by decide +kernel
theorem dX2_find_49 : decode cX2_find 49 = .ok (.iload_n 3, 1) := by decide +kernel
theorem dX2_find_50 : decode cX2_find 50 = .ok (.invokevirtual 156, 3) := by decide +kernel
theorem dX2_find_53 : decode cX2_find 53 = .ok (.ireturn, 1) := by decide +kernel
set_option maxRecDepth 20000 in
theorem ggX2_tell_X2_placeOf : GoodIn wsX2_tell wsX2_placeOf := goodIn_r _ [6] (by decide +kernel) (by decide +kernel)
set_option maxRecDepth 20000 in
theorem gX2_tell_X2_placeOf : GoodIn wsX2_tell (va_wsS RX2 83 yX2_placeOf wsX2_placeOf) := goodIn_app (goodIn_of _ (by decide +kernel)) ggX2_tell_X2_placeOf
set_option maxRecDepth 20000 in
theorem ggX2_tell_X2_numberUnlessExpired : GoodIn wsX2_tell wsX2_numberUnlessExpired := goodIn_r _ [10, 11, 12, 13, 14, 24, 25, 26, 27, 28, 29, 30, 15, 16, 17, 18, 19, 20, 21, 22, 23] (by decide +kernel) (by decide +kernel)
set_option maxRecDepth 20000 in
theorem gX2_tell_X2_numberUnlessExpired : GoodIn wsX2_tell (wsV RX2 156 RX2 yX2_numberUnlessExpired wsX2_numberUnlessExpired) := goodIn_app (goodIn_of _ (by decide +kernel)) ggX2_tell_X2_numberUnlessExpired
theorem dX2_tell_0 : decode cX2_tell 0 = .ok (.aload_n 0, 1) := by decide +kernel
theorem dX2_tell_1 : decode cX2_tell 1 = .ok (.aload_n 0, 1) := by decide +kernel
theorem dX2_tell_2 : decode cX2_tell 2 = .ok (.getfield 22, 3) := by decide +kernel
theorem dX2_tell_5 : decode cX2_tell 5 = .ok (.iload_n 1, 1) := by decide +kernel
theorem dX2_tell_6 : decode cX2_tell 6 = .ok (.iload_n 2, 1) := by decide +kernel
theorem dX2_tell_7 : decode cX2_tell 7 = .ok (.invokestatic 83, 3) := by decide +kernel
theorem dX2_tell_10 : decode cX2_tell 10 = .ok (.aaload, 1) := by decide +kernel
theorem dX2_tell_11 : decode cX2_tell 11 = .ok (.aload_n 0, 1) := by decide +kernel
theorem dX2_tell_12 : decode cX2_tell 12 = .ok (.getfield 35, 3) := by decide +kernel
theorem dX2_tell_15 : decode cX2_tell 15 = .ok (.invokevirtual 156, 3) := by decide +kernel
theorem dX2_tell_18 : decode cX2_tell 18 = .ok (.ireturn, 1) := by decide +kernel
theorem dX2_numberUnlessExpired_0 : decode cX2_numberUnlessExpired 0 = .ok (.aload_n 1, 1) := by decide +kernel
theorem dX2_numberUnlessExpired_1 : decode cX2_numberUnlessExpired 1 = .ok (.ifnull 21, 3) := by decide +kernel
theorem dX2_numberUnlessExpired_4 : decode cX2_numberUnlessExpired 4 = .ok (.iload_n 2, 1) := by decide +kernel
theorem dX2_numberUnlessExpired_5 : decode cX2_numberUnlessExpired 5 = .ok (.aload_n 1, 1) := by decide +kernel
theorem dX2_numberUnlessExpired_6 : decode cX2_numberUnlessExpired 6 = .ok (.getfield 76, 3) := by decide +kernel
theorem dX2_numberUnlessExpired_9 : decode cX2_numberUnlessExpired 9 = .ok (.isub, 1) := by decide +kernel
theorem dX2_numberUnlessExpired_10 : decode cX2_numberUnlessExpired 10 = .ok (.aload_n 0, 1) := by decide +kernel
theorem dX2_numberUnlessExpired_11 : decode cX2_numberUnlessExpired 11 = .ok (.getfield 9, 3) := by decide +kernel
theorem dX2_numberUnlessExpired_14 : decode cX2_numberUnlessExpired 14 = .ok (.aload_n 1, 1) := by decide +kernel
theorem dX2_numberUnlessExpired_15 : decode cX2_numberUnlessExpired 15 = .ok (.getfield 154, 3) := by decide +kernel
theorem dX2_numberUnlessExpired_18 : decode cX2_numberUnlessExpired 18 = .ok (.iaload, 1) := by decide +kernel
theorem dX2_numberUnlessExpired_19 : decode cX2_numberUnlessExpired 19 = .ok (.if_icmp .le 5, 3) := by decide +kernel
theorem dX2_numberUnlessExpired_22 : decode cX2_numberUnlessExpired 22 = .ok (.iconst (-1), 1) := by decide +kernel
theorem dX2_numberUnlessExpired_23 : decode cX2_numberUnlessExpired 23 = .ok (.ireturn, 1) := by decide +kernel
theorem dX2_numberUnlessExpired_24 : decode cX2_numberUnlessExpired 24 = .ok (.aload_n 1, 1) := by decide +kernel
theorem dX2_numberUnlessExpired_25 : decode cX2_numberUnlessExpired 25 = .ok (.getfield 61, 3) := by decide +kernel
theorem dX2_numberUnlessExpired_28 : decode cX2_numberUnlessExpired 28 = .ok (.ireturn, 1) := by decide +kernel
set_option maxRecDepth 20000 in
theorem ggX2_takeIn_X2_placeOf : GoodIn wsX2_takeIn wsX2_placeOf := goodIn_r _ [8] (by decide +kernel) (by decide +kernel)
set_option maxRecDepth 20000 in
theorem gX2_takeIn_X2_placeOf : GoodIn wsX2_takeIn (va_wsS RX2 83 yX2_placeOf wsX2_placeOf) := goodIn_app (goodIn_of _ (by decide +kernel)) ggX2_takeIn_X2_placeOf
theorem dX2_takeIn_0 : decode cX2_takeIn 0 = .ok (.aload_n 1, 1) := by decide +kernel
theorem dX2_takeIn_1 : decode cX2_takeIn 1 = .ok (.getfield 154, 3) := by decide +kernel
theorem dX2_takeIn_4 : decode cX2_takeIn 4 = .ok (.aload_n 1, 1) := by decide +kernel
theorem dX2_takeIn_5 : decode cX2_takeIn 5 = .ok (.getfield 155, 3) := by decide +kernel
theorem dX2_takeIn_8 : decode cX2_takeIn 8 = .ok (.invokestatic 83, 3) := by decide +kernel
theorem dX2_takeIn_11 : decode cX2_takeIn 11 = .ok (.istore_n 2, 1) := by decide +kernel
theorem dX2_takeIn_12 : decode cX2_takeIn 12 = .ok (.aload_n 0, 1) := by decide +kernel
theorem dX2_takeIn_13 : decode cX2_takeIn 13 = .ok (.getfield 22, 3) := by decide +kernel
theorem dX2_takeIn_16 : decode cX2_takeIn 16 = .ok (.iload_n 2, 1) := by decide +kernel
theorem dX2_takeIn_17 : decode cX2_takeIn 17 = .ok (.aaload, 1) := by decide +kernel
theorem dX2_takeIn_18 : decode cX2_takeIn 18 = .ok (.astore_n 3, 1) := by decide +kernel
theorem dX2_takeIn_19 : decode cX2_takeIn 19 = .ok (.aload_n 3, 1) := by decide +kernel
theorem dX2_takeIn_20 : decode cX2_takeIn 20 = .ok (.ifnull 14, 3) := by decide +kernel
theorem dX2_takeIn_23 : decode cX2_takeIn 23 = .ok (.aload_n 3, 1) := by decide +kernel
theorem dX2_takeIn_24 : decode cX2_takeIn 24 = .ok (.getfield 76, 3) := by decide +kernel
theorem dX2_takeIn_27 : decode cX2_takeIn 27 = .ok (.aload_n 1, 1) := by decide +kernel
theorem dX2_takeIn_28 : decode cX2_takeIn 28 = .ok (.getfield 76, 3) := by decide +kernel
theorem dX2_takeIn_31 : decode cX2_takeIn 31 = .ok (.if_icmp .gt 10, 3) := by decide +kernel
theorem dX2_takeIn_34 : decode cX2_takeIn 34 = .ok (.aload_n 0, 1) := by decide +kernel
theorem dX2_takeIn_35 : decode cX2_takeIn 35 = .ok (.getfield 22, 3) := by decide +kernel
theorem dX2_takeIn_38 : decode cX2_takeIn 38 = .ok (.iload_n 2, 1) := by decide +kernel
theorem dX2_takeIn_39 : decode cX2_takeIn 39 = .ok (.aload_n 1, 1) := by decide +kernel
theorem dX2_takeIn_40 : decode cX2_takeIn 40 = .ok (.aastore, 1) := by decide +kernel
theorem dX2_takeIn_41 : decode cX2_takeIn 41 = .ok (.return_, 1) := by decide +kernel
theorem dX2_multiplesBelow_0 : decode cX2_multiplesBelow 0 = .ok (.iload_n 0, 1) := by decide +kernel
theorem dX2_multiplesBelow_1 : decode cX2_multiplesBelow 1 = .ok (.iload_n 1, 1) := by decide +kernel
theorem dX2_multiplesBelow_2 : decode cX2_multiplesBelow 2 = .ok (.iadd, 1) := by decide +kernel
theorem dX2_multiplesBelow_3 : decode cX2_multiplesBelow 3 = .ok (.iconst 1, 1) := by decide +kernel
theorem dX2_multiplesBelow_4 : decode cX2_multiplesBelow 4 = .ok (.isub, 1) := by decide +kernel
theorem dX2_multiplesBelow_5 : decode cX2_multiplesBelow 5 = .ok (.iload_n 1, 1) := by decide +kernel
theorem dX2_multiplesBelow_6 : decode cX2_multiplesBelow 6 = .ok (.idiv, 1) := by decide +kernel
theorem dX2_multiplesBelow_7 : decode cX2_multiplesBelow 7 = .ok (.ireturn, 1) := by decide +kernel
theorem dJ9_max_7cf53_0 : decode cJ9_max_7cf53 0 = .ok (.iload_n 0, 1) := by decide +kernel
theorem dJ9_max_7cf53_1 : decode cJ9_max_7cf53 1 = .ok (.iload_n 1, 1) := by decide +kernel
theorem dJ9_max_7cf53_2 : decode cJ9_max_7cf53 2 = .ok (.if_icmp .lt 7, 3) := by decide +kernel
theorem dJ9_max_7cf53_5 : decode cJ9_max_7cf53 5 = .ok (.iload_n 0, 1) := by decide +kernel
theorem dJ9_max_7cf53_6 : decode cJ9_max_7cf53 6 = .ok (.goto 4, 3) := by decide +kernel
theorem dJ9_max_7cf53_9 : decode cJ9_max_7cf53 9 = .ok (.iload_n 1, 1) := by decide +kernel
theorem dJ9_max_7cf53_10 : decode cJ9_max_7cf53 10 = .ok (.ireturn, 1) := by decide +kernel
theorem dJ9_min_7cf53_0 : decode cJ9_min_7cf53 0 = .ok (.iload_n 0, 1) := by decide +kernel
theorem dJ9_min_7cf53_1 : decode cJ9_min_7cf53 1 = .ok (.iload_n 1, 1) := by decide +kernel
theorem dJ9_min_7cf53_2 : decode cJ9_min_7cf53 2 = .ok (.if_icmp .gt 7, 3) := by decide +kernel
theorem dJ9_min_7cf53_5 : decode cJ9_min_7cf53 5 = .ok (.iload_n 0, 1) := by decide +kernel
theorem dJ9_min_7cf53_6 : decode cJ9_min_7cf53 6 = .ok (.goto 4, 3) := by decide +kernel
theorem dJ9_min_7cf53_9 : decode cJ9_min_7cf53 9 = .ok (.iload_n 1, 1) := by decide +kernel
theorem dJ9_min_7cf53_10 : decode cJ9_min_7cf53 10 = .ok (.ireturn, 1) := by decide +kernel
theorem dL_cell_0 : decode cL_cell 0 = .ok (.iload_n 1, 1) := by decide +kernel
theorem dL_cell_1 : decode cL_cell 1 = .ok (.aload_n 0, 1) := by decide +kernel
theorem dL_cell_2 : decode cL_cell 2 = .ok (.arraylength, 1) := by decide +kernel
theorem dL_cell_3 : decode cL_cell 3 = .ok (.if_icmp .ge 9, 3) := by decide +kernel
theorem dL_cell_6 : decode cL_cell 6 = .ok (.aload_n 0, 1) := by decide +kernel
theorem dL_cell_7 : decode cL_cell 7 = .ok (.iload_n 1, 1) := by decide +kernel
theorem dL_cell_8 : decode cL_cell 8 = .ok (.iaload, 1) := by decide +kernel
theorem dL_cell_9 : decode cL_cell 9 = .ok (.goto 9, 3) := by decide +kernel
theorem dL_cell_12 : decode cL_cell 12 = .ok (.ldc 7, 2) := by decide +kernel
theorem dL_cell_14 : decode cL_cell 14 = .ok (.iload_n 1, 1) := by decide +kernel
theorem dL_cell_15 : decode cL_cell 15 = .ok (.iconst 5, 1) := by decide +kernel
theorem dL_cell_16 : decode cL_cell 16 = .ok (.iadd, 1) := by decide +kernel
theorem dL_cell_17 : decode cL_cell 17 = .ok (.imul, 1) := by decide +kernel
theorem dL_cell_18 : decode cL_cell 18 = .ok (.ireturn, 1) := by decide +kernel
theorem dL_low_0 : decode cL_low 0 = .ok (.iload_n 0, 1) := by decide +kernel
theorem dL_low_1 : decode cL_low 1 = .ok (.iconst 1, 1) := by decide +kernel
theorem dL_low_2 : decode cL_low 2 = .ok (.iushr, 1) := by decide +kernel
theorem dL_low_3 : decode cL_low 3 = .ok (.iload_n 1, 1) := by decide +kernel
theorem dL_low_4 : decode cL_low 4 = .ok (.irem, 1) := by decide +kernel
theorem dL_low_5 : decode cL_low 5 = .ok (.ireturn, 1) := by decide +kernel
set_option maxRecDepth 20000 in
theorem ggL_arrive_X2_arrive : GoodIn wsL_arrive wsX2_arrive := goodIn_ca (goodIn_ca (goodIn_r _ [6, 7, 8, 9, 10, 11, 12, 13, 14, 15, 16, 17, 18, 5, 19, 20, 21, 22, 23, 24, 25, 26, 27, 28, 29, 30, 31, 32, 33, 34, 35, 36, 37, 38, 39, 40, 41, 42, 43, 44, 45, 46, 47, 48, 49, 50, 51, 52, 53, 54, 55, 56, 57, 58, 59, 60, 61, 62, 63, 64] (by decide +kernel) (by decide +kernel)) (goodIn_sub (fun _ h => List.mem_cons_of_mem _ (List.mem_append_left _ (List.mem_append_right _ h))) (by decide +kernel))) (goodIn_sub (fun _ h => List.mem_cons_of_mem _ (List.mem_append_right _ h)) (by decide +kernel))
set_option maxRecDepth 20000 in
theorem gL_arrive_X2_arrive : GoodIn wsL_arrive (wsV RL 8 RX2 yX2_arrive wsX2_arrive) := goodIn_app (goodIn_of _ (by decide +kernel)) ggL_arrive_X2_arrive
theorem dL_arrive_0 : decode cL_arrive 0 = .ok (.aload_n 0, 1) := by decide +kernel
theorem dL_arrive_1 : decode cL_arrive 1 = .ok (.iload_n 1, 1) := by decide +kernel
theorem dL_arrive_2 : decode cL_arrive 2 = .ok (.iload_n 2, 1) := by decide +kernel
theorem dL_arrive_3 : decode cL_arrive 3 = .ok (.iload_n 3, 1) := by decide +kernel
theorem dL_arrive_4 : decode cL_arrive 4 = .ok (.iload 4, 2) := by decide +kernel
theorem dL_arrive_6 : decode cL_arrive 6 = .ok (.invokevirtual 8, 3) := by decide +kernel
theorem dL_arrive_9 : decode cL_arrive 9 = .ok (.istore 5, 2) := by decide +kernel
theorem dL_arrive_11 : decode cL_arrive 11 = .ok (.goto 8, 3) := by decide +kernel
theorem dL_arrive_14 : decode cL_arrive 14 = .ok (.astore 6, 2) := by decide +kernel
theorem dL_arrive_16 : decode cL_arrive 16 = .ok (.bipush (-72), 2) := by decide +kernel
theorem dL_arrive_18 : decode cL_arrive 18 = .ok (.ireturn, 1) := by decide +kernel
theorem dL_arrive_19 : decode cL_arrive 19 = .ok (.iload 5, 2) := by decide +kernel
theorem dL_arrive_21 : decode cL_arrive 21 = .ok (.ireturn, 1) := by decide +kernel
set_option maxRecDepth 20000 in
theorem ggL_pass_X2_pass : GoodIn wsL_pass wsX2_pass := goodIn_ca (goodIn_ca (goodIn_r _ [7, 8, 9, 10, 11, 12, 6, 13, 14, 15, 16, 17, 18, 19, 20, 21, 22, 23, 24] (by decide +kernel) (by decide +kernel)) (goodIn_sub (fun _ h => List.mem_cons_of_mem _ (List.mem_append_left _ (List.mem_append_right _ h))) (by decide +kernel))) (goodIn_sub (fun _ h => List.mem_cons_of_mem _ (List.mem_append_right _ h)) (by decide +kernel))
set_option maxRecDepth 20000 in
theorem gL_pass_X2_pass : GoodIn wsL_pass (wsV RL 16 RX2 yX2_pass wsX2_pass) := goodIn_app (goodIn_of _ (by decide +kernel)) ggL_pass_X2_pass
theorem dL_pass_0 : decode cL_pass 0 = .ok (.aload_n 0, 1) := by decide +kernel
theorem dL_pass_1 : decode cL_pass 1 = .ok (.iload_n 1, 1) := by decide +kernel
theorem dL_pass_2 : decode cL_pass 2 = .ok (.invokevirtual 16, 3) := by decide +kernel
theorem dL_pass_5 : decode cL_pass 5 = .ok (.istore_n 2, 1) := by decide +kernel
theorem dL_pass_6 : decode cL_pass 6 = .ok (.goto 11, 3) := by decide +kernel
theorem dL_pass_9 : decode cL_pass 9 = .ok (.astore_n 3, 1) := by decide +kernel
theorem dL_pass_10 : decode cL_pass 10 = .ok (.bipush (-72), 2) := by decide +kernel
theorem dL_pass_12 : decode cL_pass 12 = .ok (.ireturn, 1) := by decide +kernel
theorem dL_pass_13 : decode cL_pass 13 = .ok (.astore_n 3, 1) := by decide +kernel
theorem dL_pass_14 : decode cL_pass 14 = .ok (.bipush (-73), 2) := by decide +kernel
theorem dL_pass_16 : decode cL_pass 16 = .ok (.ireturn, 1) := by decide +kernel
theorem dL_pass_17 : decode cL_pass 17 = .ok (.iload_n 2, 1) := by decide +kernel
theorem dL_pass_18 : decode cL_pass 18 = .ok (.ireturn, 1) := by decide +kernel
set_option maxRecDepth 20000 in
theorem ggL_setLifetime_X2_setLifetime : GoodIn wsL_setLifetime wsX2_setLifetime := goodIn_ca (goodIn_r _ [6, 7, 8, 9, 5, 10, 11, 12, 13, 14, 15, 16, 17, 18, 19, 20, 21] (by decide +kernel) (by decide +kernel)) (goodIn_sub (fun _ h => List.mem_cons_of_mem _ (List.mem_append_right _ h)) (by decide +kernel))
set_option maxRecDepth 20000 in
theorem gL_setLifetime_X2_setLifetime : GoodIn wsL_setLifetime (wsV RL 22 RX2 yX2_setLifetime wsX2_setLifetime) := goodIn_app (goodIn_of _ (by decide +kernel)) ggL_setLifetime_X2_setLifetime
theorem dL_setLifetime_0 : decode cL_setLifetime 0 = .ok (.aload_n 0, 1) := by decide +kernel
theorem dL_setLifetime_1 : decode cL_setLifetime 1 = .ok (.iload_n 1, 1) := by decide +kernel
theorem dL_setLifetime_2 : decode cL_setLifetime 2 = .ok (.iload_n 2, 1) := by decide +kernel
theorem dL_setLifetime_3 : decode cL_setLifetime 3 = .ok (.invokevirtual 22, 3) := by decide +kernel
theorem dL_setLifetime_6 : decode cL_setLifetime 6 = .ok (.istore_n 3, 1) := by decide +kernel
theorem dL_setLifetime_7 : decode cL_setLifetime 7 = .ok (.goto 8, 3) := by decide +kernel
theorem dL_setLifetime_10 : decode cL_setLifetime 10 = .ok (.astore 4, 2) := by decide +kernel
theorem dL_setLifetime_12 : decode cL_setLifetime 12 = .ok (.bipush (-72), 2) := by decide +kernel
theorem dL_setLifetime_14 : decode cL_setLifetime 14 = .ok (.ireturn, 1) := by decide +kernel
theorem dL_setLifetime_15 : decode cL_setLifetime 15 = .ok (.iload_n 3, 1) := by decide +kernel
theorem dL_setLifetime_16 : decode cL_setLifetime 16 = .ok (.ireturn, 1) := by decide +kernel
set_option maxRecDepth 20000 in
theorem ggL_value_X2_value : GoodIn wsL_value wsX2_value := goodIn_ca (goodIn_r _ [6, 7, 8, 9, 10, 5, 11, 12, 13, 14, 15, 16, 17, 18, 19, 20, 21, 22, 23, 24, 25, 26, 27, 28, 29, 30, 31, 32, 33, 34, 35] (by decide +kernel) (by decide +kernel)) (goodIn_sub (fun _ h => List.mem_cons_of_mem _ (List.mem_append_right _ h)) (by decide +kernel))
set_option maxRecDepth 20000 in
theorem gL_value_X2_value : GoodIn wsL_value (wsV RL 26 RX2 yX2_value wsX2_value) := goodIn_app (goodIn_of _ (by decide +kernel)) ggL_value_X2_value
theorem dL_value_0 : decode cL_value 0 = .ok (.aload_n 0, 1) := by decide +kernel
theorem dL_value_1 : decode cL_value 1 = .ok (.iload_n 1, 1) := by decide +kernel
theorem dL_value_2 : decode cL_value 2 = .ok (.invokevirtual 26, 3) := by decide +kernel
theorem dL_value_5 : decode cL_value 5 = .ok (.istore_n 2, 1) := by decide +kernel
theorem dL_value_6 : decode cL_value 6 = .ok (.goto 7, 3) := by decide +kernel
theorem dL_value_9 : decode cL_value 9 = .ok (.astore_n 3, 1) := by decide +kernel
theorem dL_value_10 : decode cL_value 10 = .ok (.bipush (-71), 2) := by decide +kernel
theorem dL_value_12 : decode cL_value 12 = .ok (.ireturn, 1) := by decide +kernel
theorem dL_value_13 : decode cL_value 13 = .ok (.iload_n 2, 1) := by decide +kernel
theorem dL_value_14 : decode cL_value 14 = .ok (.ireturn, 1) := by decide +kernel
set_option maxRecDepth 20000 in
theorem ggL_late_X2_late : GoodIn wsL_late wsX2_late := goodIn_ca (goodIn_r _ [6, 7, 8, 9, 10, 11, 5, 12, 13, 14, 15, 16, 17, 18, 19, 20, 21, 22, 23, 24, 25, 26, 27, 28, 29, 30, 31, 32, 33, 34, 35, 36] (by decide +kernel) (by decide +kernel)) (goodIn_sub (fun _ h => List.mem_cons_of_mem _ (List.mem_append_right _ h)) (by decide +kernel))
set_option maxRecDepth 20000 in
theorem gL_late_X2_late : GoodIn wsL_late (wsV RL 31 RX2 yX2_late wsX2_late) := goodIn_app (goodIn_of _ (by decide +kernel)) ggL_late_X2_late
theorem dL_late_0 : decode cL_late 0 = .ok (.aload_n 0, 1) := by decide +kernel
theorem dL_late_1 : decode cL_late 1 = .ok (.iload_n 1, 1) := by decide +kernel
theorem dL_late_2 : decode cL_late 2 = .ok (.invokevirtual 31, 3) := by decide +kernel
theorem dL_late_5 : decode cL_late 5 = .ok (.istore_n 2, 1) := by decide +kernel
theorem dL_late_6 : decode cL_late 6 = .ok (.goto 7, 3) := by decide +kernel
theorem dL_late_9 : decode cL_late 9 = .ok (.astore_n 3, 1) := by decide +kernel
theorem dL_late_10 : decode cL_late 10 = .ok (.bipush (-71), 2) := by decide +kernel
theorem dL_late_12 : decode cL_late 12 = .ok (.ireturn, 1) := by decide +kernel
theorem dL_late_13 : decode cL_late 13 = .ok (.iload_n 2, 1) := by decide +kernel
theorem dL_late_14 : decode cL_late 14 = .ok (.ireturn, 1) := by decide +kernel
set_option maxRecDepth 20000 in
theorem ggL_join_X2_join : GoodIn wsL_join wsX2_join := goodIn_ca (goodIn_r _ [6, 7, 8, 9, 5, 10, 11, 12, 13, 14, 15, 16, 17, 18, 19, 20, 21, 22, 23, 24, 25, 26, 27, 28, 29, 30, 31, 32, 33, 34, 35, 36, 37, 38, 39, 40, 41, 42, 43, 44, 45, 46, 47, 48, 49] (by decide +kernel) (by decide +kernel)) (goodIn_sub (fun _ h => List.mem_cons_of_mem _ (List.mem_append_right _ h)) (by decide +kernel))
set_option maxRecDepth 20000 in
theorem gL_join_X2_join : GoodIn wsL_join (wsV RL 34 RX2 yX2_join wsX2_join) := goodIn_app (goodIn_of _ (by decide +kernel)) ggL_join_X2_join
theorem dL_join_0 : decode cL_join 0 = .ok (.aload_n 0, 1) := by decide +kernel
theorem dL_join_1 : decode cL_join 1 = .ok (.iload_n 1, 1) := by decide +kernel
theorem dL_join_2 : decode cL_join 2 = .ok (.iload_n 2, 1) := by decide +kernel
theorem dL_join_3 : decode cL_join 3 = .ok (.iload_n 3, 1) := by decide +kernel
theorem dL_join_4 : decode cL_join 4 = .ok (.iload 4, 2) := by decide +kernel
theorem dL_join_6 : decode cL_join 6 = .ok (.invokevirtual 34, 3) := by decide +kernel
theorem dL_join_9 : decode cL_join 9 = .ok (.istore 5, 2) := by decide +kernel
theorem dL_join_11 : decode cL_join 11 = .ok (.goto 8, 3) := by decide +kernel
theorem dL_join_14 : decode cL_join 14 = .ok (.astore 6, 2) := by decide +kernel
theorem dL_join_16 : decode cL_join 16 = .ok (.bipush (-72), 2) := by decide +kernel
theorem dL_join_18 : decode cL_join 18 = .ok (.ireturn, 1) := by decide +kernel
theorem dL_join_19 : decode cL_join 19 = .ok (.iload 5, 2) := by decide +kernel
theorem dL_join_21 : decode cL_join 21 = .ok (.ireturn, 1) := by decide +kernel
set_option maxRecDepth 20000 in
theorem ggL_window_X2_window : GoodIn wsL_window wsX2_window := goodIn_ca (goodIn_r _ [6, 7, 8, 9, 10, 11, 12, 5, 13, 14, 15, 16, 17, 18, 19, 20, 21, 22, 23, 24, 25, 26, 27, 28, 29, 30, 31, 32, 33, 34, 35, 36, 37] (by decide +kernel) (by decide +kernel)) (goodIn_sub (fun _ h => List.mem_cons_of_mem _ (List.mem_append_right _ h)) (by decide +kernel))
set_option maxRecDepth 20000 in
theorem gL_window_X2_window : GoodIn wsL_window (wsV RL 37 RX2 yX2_window wsX2_window) := goodIn_app (goodIn_of _ (by decide +kernel)) ggL_window_X2_window
theorem dL_window_0 : decode cL_window 0 = .ok (.aload_n 0, 1) := by decide +kernel
theorem dL_window_1 : decode cL_window 1 = .ok (.iload_n 1, 1) := by decide +kernel
theorem dL_window_2 : decode cL_window 2 = .ok (.iload_n 2, 1) := by decide +kernel
theorem dL_window_3 : decode cL_window 3 = .ok (.iload_n 3, 1) := by decide +kernel
theorem dL_window_4 : decode cL_window 4 = .ok (.iload 4, 2) := by decide +kernel
theorem dL_window_6 : decode cL_window 6 = .ok (.invokevirtual 37, 3) := by decide +kernel
theorem dL_window_9 : decode cL_window 9 = .ok (.istore 5, 2) := by decide +kernel
theorem dL_window_11 : decode cL_window 11 = .ok (.goto 8, 3) := by decide +kernel
theorem dL_window_14 : decode cL_window 14 = .ok (.astore 6, 2) := by decide +kernel
theorem dL_window_16 : decode cL_window 16 = .ok (.bipush (-72), 2) := by decide +kernel
theorem dL_window_18 : decode cL_window 18 = .ok (.ireturn, 1) := by decide +kernel
theorem dL_window_19 : decode cL_window 19 = .ok (.iload 5, 2) := by decide +kernel
theorem dL_window_21 : decode cL_window 21 = .ok (.ireturn, 1) := by decide +kernel
set_option maxRecDepth 20000 in
theorem ggL_greatestTile_X2_greatestTile : GoodIn wsL_greatestTile wsX2_greatestTile := goodIn_ca (goodIn_r _ [6, 7, 8, 9, 10, 11, 12, 13, 14, 15, 16, 5, 17, 18, 19, 20, 21, 22, 23, 24, 25, 26, 27, 28, 29, 30, 31, 32, 33, 34, 35, 36, 37, 38, 39, 40, 41] (by decide +kernel) (by decide +kernel)) (goodIn_sub (fun _ h => List.mem_cons_of_mem _ (List.mem_append_right _ h)) (by decide +kernel))
set_option maxRecDepth 20000 in
theorem gL_greatestTile_X2_greatestTile : GoodIn wsL_greatestTile (wsV RL 40 RX2 yX2_greatestTile wsX2_greatestTile) := goodIn_app (goodIn_of _ (by decide +kernel)) ggL_greatestTile_X2_greatestTile
theorem dL_greatestTile_0 : decode cL_greatestTile 0 = .ok (.aload_n 0, 1) := by decide +kernel
theorem dL_greatestTile_1 : decode cL_greatestTile 1 = .ok (.iload_n 1, 1) := by decide +kernel
theorem dL_greatestTile_2 : decode cL_greatestTile 2 = .ok (.iload_n 2, 1) := by decide +kernel
theorem dL_greatestTile_3 : decode cL_greatestTile 3 = .ok (.iload_n 3, 1) := by decide +kernel
theorem dL_greatestTile_4 : decode cL_greatestTile 4 = .ok (.invokevirtual 40, 3) := by decide +kernel
theorem dL_greatestTile_7 : decode cL_greatestTile 7 = .ok (.istore 4, 2) := by decide +kernel
theorem dL_greatestTile_9 : decode cL_greatestTile 9 = .ok (.goto 8, 3) := by decide +kernel
theorem dL_greatestTile_12 : decode cL_greatestTile 12 = .ok (.astore 5, 2) := by decide +kernel
theorem dL_greatestTile_14 : decode cL_greatestTile 14 = .ok (.bipush (-72), 2) := by decide +kernel
theorem dL_greatestTile_16 : decode cL_greatestTile 16 = .ok (.ireturn, 1) := by decide +kernel
theorem dL_greatestTile_17 : decode cL_greatestTile 17 = .ok (.iload 4, 2) := by decide +kernel
theorem dL_greatestTile_19 : decode cL_greatestTile 19 = .ok (.ireturn, 1) := by decide +kernel
set_option maxRecDepth 20000 in
theorem ggL_tiles_X2_tiles : GoodIn wsL_tiles wsX2_tiles := goodIn_ca (goodIn_r _ [6, 7, 8, 9, 10, 11, 5, 12, 13, 14, 15, 16, 17, 18, 19, 20, 21, 22, 23, 24, 25, 26, 27, 28, 29, 30, 31, 32, 33, 34, 35, 36] (by decide +kernel) (by decide +kernel)) (goodIn_sub (fun _ h => List.mem_cons_of_mem _ (List.mem_append_right _ h)) (by decide +kernel))
set_option maxRecDepth 20000 in
theorem gL_tiles_X2_tiles : GoodIn wsL_tiles (wsV RL 44 RX2 yX2_tiles wsX2_tiles) := goodIn_app (goodIn_of _ (by decide +kernel)) ggL_tiles_X2_tiles
theorem dL_tiles_0 : decode cL_tiles 0 = .ok (.aload_n 0, 1) := by decide +kernel
theorem dL_tiles_1 : decode cL_tiles 1 = .ok (.iload_n 1, 1) := by decide +kernel
theorem dL_tiles_2 : decode cL_tiles 2 = .ok (.iload_n 2, 1) := by decide +kernel
theorem dL_tiles_3 : decode cL_tiles 3 = .ok (.iload_n 3, 1) := by decide +kernel
theorem dL_tiles_4 : decode cL_tiles 4 = .ok (.invokevirtual 44, 3) := by decide +kernel
theorem dL_tiles_7 : decode cL_tiles 7 = .ok (.istore 4, 2) := by decide +kernel
theorem dL_tiles_9 : decode cL_tiles 9 = .ok (.goto 8, 3) := by decide +kernel
theorem dL_tiles_12 : decode cL_tiles 12 = .ok (.astore 5, 2) := by decide +kernel
theorem dL_tiles_14 : decode cL_tiles 14 = .ok (.bipush (-72), 2) := by decide +kernel
theorem dL_tiles_16 : decode cL_tiles 16 = .ok (.ireturn, 1) := by decide +kernel
theorem dL_tiles_17 : decode cL_tiles 17 = .ok (.iload 4, 2) := by decide +kernel
theorem dL_tiles_19 : decode cL_tiles 19 = .ok (.ireturn, 1) := by decide +kernel
set_option maxRecDepth 20000 in
theorem ggL_revised_X2_revised : GoodIn wsL_revised wsX2_revised := goodIn_ca (goodIn_r _ [6, 7, 8, 9, 10, 11, 12, 13, 14, 15, 16, 17, 18, 5, 19, 20, 21, 22, 23, 24, 25, 26, 27, 28, 29, 30, 31, 32, 33, 34, 35, 36, 37, 38, 39, 40, 41, 42, 43, 44, 45, 46] (by decide +kernel) (by decide +kernel)) (goodIn_sub (fun _ h => List.mem_cons_of_mem _ (List.mem_append_right _ h)) (by decide +kernel))
set_option maxRecDepth 20000 in
theorem gL_revised_X2_revised : GoodIn wsL_revised (wsV RL 47 RX2 yX2_revised wsX2_revised) := goodIn_app (goodIn_of _ (by decide +kernel)) ggL_revised_X2_revised
theorem dL_revised_0 : decode cL_revised 0 = .ok (.aload_n 0, 1) := by decide +kernel
theorem dL_revised_1 : decode cL_revised 1 = .ok (.iload_n 1, 1) := by decide +kernel
theorem dL_revised_2 : decode cL_revised 2 = .ok (.iload_n 2, 1) := by decide +kernel
theorem dL_revised_3 : decode cL_revised 3 = .ok (.iload_n 3, 1) := by decide +kernel
theorem dL_revised_4 : decode cL_revised 4 = .ok (.invokevirtual 47, 3) := by decide +kernel
theorem dL_revised_7 : decode cL_revised 7 = .ok (.istore 4, 2) := by decide +kernel
theorem dL_revised_9 : decode cL_revised 9 = .ok (.goto 8, 3) := by decide +kernel
theorem dL_revised_12 : decode cL_revised 12 = .ok (.astore 5, 2) := by decide +kernel
theorem dL_revised_14 : decode cL_revised 14 = .ok (.bipush (-72), 2) := by decide +kernel
theorem dL_revised_16 : decode cL_revised 16 = .ok (.ireturn, 1) := by decide +kernel
theorem dL_revised_17 : decode cL_revised 17 = .ok (.iload 4, 2) := by decide +kernel
theorem dL_revised_19 : decode cL_revised 19 = .ok (.ireturn, 1) := by decide +kernel
set_option maxRecDepth 20000 in
theorem ggL_take_X2_take : GoodIn wsL_take wsX2_take := goodIn_ca (goodIn_r _ [6, 7, 8, 9, 5, 10, 11, 12, 13, 14, 15, 16, 17, 18, 19, 20, 21, 22, 23, 24, 25, 26, 27, 28, 29, 30, 31, 32, 33, 34, 35, 36, 37, 38, 39, 40, 41, 42, 43, 44, 45] (by decide +kernel) (by decide +kernel)) (goodIn_sub (fun _ h => List.mem_cons_of_mem _ (List.mem_append_right _ h)) (by decide +kernel))
set_option maxRecDepth 20000 in
theorem gL_take_X2_take : GoodIn wsL_take (wsV RL 50 RX2 yX2_take wsX2_take) := goodIn_app (goodIn_of _ (by decide +kernel)) ggL_take_X2_take
theorem dL_take_0 : decode cL_take 0 = .ok (.aload_n 0, 1) := by decide +kernel
theorem dL_take_1 : decode cL_take 1 = .ok (.iload_n 1, 1) := by decide +kernel
theorem dL_take_2 : decode cL_take 2 = .ok (.invokevirtual 50, 3) := by decide +kernel
theorem dL_take_5 : decode cL_take 5 = .ok (.istore_n 2, 1) := by decide +kernel
theorem dL_take_6 : decode cL_take 6 = .ok (.goto 7, 3) := by decide +kernel
theorem dL_take_9 : decode cL_take 9 = .ok (.astore_n 3, 1) := by decide +kernel
theorem dL_take_10 : decode cL_take 10 = .ok (.bipush (-72), 2) := by decide +kernel
theorem dL_take_12 : decode cL_take 12 = .ok (.ireturn, 1) := by decide +kernel
theorem dL_take_13 : decode cL_take 13 = .ok (.iload_n 2, 1) := by decide +kernel
theorem dL_take_14 : decode cL_take 14 = .ok (.ireturn, 1) := by decide +kernel
set_option maxRecDepth 20000 in
theorem ggL_online_X2_online : GoodIn wsL_online wsX2_online := goodIn_ca (goodIn_r _ [6, 7, 8, 5, 9, 10, 11, 12, 13, 14, 15, 16, 17, 18, 19, 20, 21, 22, 23, 24, 25, 26, 27, 28, 29, 30, 31, 32, 33, 34, 35, 36, 37, 38, 39, 40, 41, 42, 43, 44, 45, 46, 47] (by decide +kernel) (by decide +kernel)) (goodIn_sub (fun _ h => List.mem_cons_of_mem _ (List.mem_append_right _ h)) (by decide +kernel))
set_option maxRecDepth 20000 in
theorem gL_online_X2_online : GoodIn wsL_online (wsV RL 53 RX2 yX2_online wsX2_online) := goodIn_app (goodIn_of _ (by decide +kernel)) ggL_online_X2_online
theorem dL_online_0 : decode cL_online 0 = .ok (.aload_n 0, 1) := by decide +kernel
theorem dL_online_1 : decode cL_online 1 = .ok (.iload_n 1, 1) := by decide +kernel
theorem dL_online_2 : decode cL_online 2 = .ok (.iload_n 2, 1) := by decide +kernel
theorem dL_online_3 : decode cL_online 3 = .ok (.invokevirtual 53, 3) := by decide +kernel
theorem dL_online_6 : decode cL_online 6 = .ok (.istore_n 3, 1) := by decide +kernel
theorem dL_online_7 : decode cL_online 7 = .ok (.goto 8, 3) := by decide +kernel
theorem dL_online_10 : decode cL_online 10 = .ok (.astore 4, 2) := by decide +kernel
theorem dL_online_12 : decode cL_online 12 = .ok (.bipush (-72), 2) := by decide +kernel
theorem dL_online_14 : decode cL_online 14 = .ok (.ireturn, 1) := by decide +kernel
theorem dL_online_15 : decode cL_online 15 = .ok (.iload_n 3, 1) := by decide +kernel
theorem dL_online_16 : decode cL_online 16 = .ok (.ireturn, 1) := by decide +kernel
set_option maxRecDepth 20000 in
theorem ggL_serve_X2_serve : GoodIn wsL_serve wsX2_serve := goodIn_ca (goodIn_ca (goodIn_r _ [6, 7, 8, 9, 10, 11, 12, 13, 14, 15, 16, 5, 17, 18, 19, 20, 21, 22, 23, 24, 25, 26, 27, 28, 29, 30, 31, 32, 33, 34, 35, 36, 37, 38, 39, 40, 41, 42, 43, 44, 45, 46, 47, 48, 49, 50, 51, 52, 53, 54, 55, 56, 57, 58, 59, 60, 61, 62, 63, 64, 65, 66, 67, 68] (by decide +kernel) (by decide +kernel)) (goodIn_sub (fun _ h => List.mem_cons_of_mem _ (List.mem_append_left _ (List.mem_append_right _ h))) (by decide +kernel))) (goodIn_sub (fun _ h => List.mem_cons_of_mem _ (List.mem_append_right _ h)) (by decide +kernel))
set_option maxRecDepth 20000 in
theorem gL_serve_X2_serve : GoodIn wsL_serve (wsV RL 56 RX2 yX2_serve wsX2_serve) := goodIn_app (goodIn_of _ (by decide +kernel)) ggL_serve_X2_serve
theorem dL_serve_0 : decode cL_serve 0 = .ok (.aload_n 0, 1) := by decide +kernel
theorem dL_serve_1 : decode cL_serve 1 = .ok (.iload_n 1, 1) := by decide +kernel
theorem dL_serve_2 : decode cL_serve 2 = .ok (.iload_n 2, 1) := by decide +kernel
theorem dL_serve_3 : decode cL_serve 3 = .ok (.invokevirtual 56, 3) := by decide +kernel
theorem dL_serve_6 : decode cL_serve 6 = .ok (.istore_n 3, 1) := by decide +kernel
theorem dL_serve_7 : decode cL_serve 7 = .ok (.goto 8, 3) := by decide +kernel
theorem dL_serve_10 : decode cL_serve 10 = .ok (.astore 4, 2) := by decide +kernel
theorem dL_serve_12 : decode cL_serve 12 = .ok (.bipush (-72), 2) := by decide +kernel
theorem dL_serve_14 : decode cL_serve 14 = .ok (.ireturn, 1) := by decide +kernel
theorem dL_serve_15 : decode cL_serve 15 = .ok (.iload_n 3, 1) := by decide +kernel
theorem dL_serve_16 : decode cL_serve 16 = .ok (.ireturn, 1) := by decide +kernel
set_option maxRecDepth 20000 in
theorem ggL_served_X2_served : GoodIn wsL_served wsX2_served := goodIn_ca (goodIn_r _ [6, 7, 8, 9, 10, 5, 11, 12, 13, 14, 15, 16, 17, 18, 19, 20, 21, 22, 23, 24, 25, 26, 27, 28] (by decide +kernel) (by decide +kernel)) (goodIn_sub (fun _ h => List.mem_cons_of_mem _ (List.mem_append_right _ h)) (by decide +kernel))
set_option maxRecDepth 20000 in
theorem gL_served_X2_served : GoodIn wsL_served (wsV RL 59 RX2 yX2_served wsX2_served) := goodIn_app (goodIn_of _ (by decide +kernel)) ggL_served_X2_served
theorem dL_served_0 : decode cL_served 0 = .ok (.aload_n 0, 1) := by decide +kernel
theorem dL_served_1 : decode cL_served 1 = .ok (.iload_n 1, 1) := by decide +kernel
theorem dL_served_2 : decode cL_served 2 = .ok (.invokevirtual 59, 3) := by decide +kernel
theorem dL_served_5 : decode cL_served 5 = .ok (.istore_n 2, 1) := by decide +kernel
theorem dL_served_6 : decode cL_served 6 = .ok (.goto 7, 3) := by decide +kernel
theorem dL_served_9 : decode cL_served 9 = .ok (.astore_n 3, 1) := by decide +kernel
theorem dL_served_10 : decode cL_served 10 = .ok (.bipush (-71), 2) := by decide +kernel
theorem dL_served_12 : decode cL_served 12 = .ok (.ireturn, 1) := by decide +kernel
theorem dL_served_13 : decode cL_served 13 = .ok (.iload_n 2, 1) := by decide +kernel
theorem dL_served_14 : decode cL_served 14 = .ok (.ireturn, 1) := by decide +kernel
set_option maxRecDepth 20000 in
theorem ggL_isSound_X2_isSound : GoodIn wsL_isSound wsX2_isSound := goodIn_ca (goodIn_r _ [6, 7, 8, 9, 10, 11, 12, 13, 5, 14, 15, 16, 17, 18, 19, 20, 21, 22, 23, 24, 25, 26, 27, 28, 29, 30, 31, 32, 33, 34, 35, 36, 37, 38, 39, 40, 41, 42, 43, 44, 45, 46, 47, 48, 49, 50, 51, 52, 53, 54, 55, 56] (by decide +kernel) (by decide +kernel)) (goodIn_sub (fun _ h => List.mem_cons_of_mem _ (List.mem_append_right _ h)) (by decide +kernel))
set_option maxRecDepth 20000 in
theorem gL_isSound_X2_isSound : GoodIn wsL_isSound (wsV RL 62 RX2 yX2_isSound wsX2_isSound) := goodIn_app (goodIn_of _ (by decide +kernel)) ggL_isSound_X2_isSound
theorem dL_isSound_0 : decode cL_isSound 0 = .ok (.aload_n 0, 1) := by decide +kernel
theorem dL_isSound_1 : decode cL_isSound 1 = .ok (.iload_n 1, 1) := by decide +kernel
theorem dL_isSound_2 : decode cL_isSound 2 = .ok (.invokevirtual 62, 3) := by decide +kernel
theorem dL_isSound_5 : decode cL_isSound 5 = .ok (.istore_n 2, 1) := by decide +kernel
theorem dL_isSound_6 : decode cL_isSound 6 = .ok (.goto 7, 3) := by decide +kernel
theorem dL_isSound_9 : decode cL_isSound 9 = .ok (.astore_n 3, 1) := by decide +kernel
theorem dL_isSound_10 : decode cL_isSound 10 = .ok (.bipush (-71), 2) := by decide +kernel
theorem dL_isSound_12 : decode cL_isSound 12 = .ok (.ireturn, 1) := by decide +kernel
theorem dL_isSound_13 : decode cL_isSound 13 = .ok (.iload_n 2, 1) := by decide +kernel
theorem dL_isSound_14 : decode cL_isSound 14 = .ok (.ifCond .eq 7, 3) := by decide +kernel
theorem dL_isSound_17 : decode cL_isSound 17 = .ok (.iconst 1, 1) := by decide +kernel
theorem dL_isSound_18 : decode cL_isSound 18 = .ok (.goto 4, 3) := by decide +kernel
theorem dL_isSound_21 : decode cL_isSound 21 = .ok (.iconst 0, 1) := by decide +kernel
theorem dL_isSound_22 : decode cL_isSound 22 = .ok (.ireturn, 1) := by decide +kernel
theorem dL_find_0 : decode cL_find 0 = .ok (.iconst (-1), 1) := by decide +kernel
theorem dL_find_1 : decode cL_find 1 = .ok (.istore 8, 2) := by decide +kernel
theorem dL_find_3 : decode cL_find 3 = .ok (.iconst (-1), 1) := by decide +kernel
theorem dL_find_4 : decode cL_find 4 = .ok (.istore 9, 2) := by decide +kernel
theorem dL_find_6 : decode cL_find 6 = .ok (.iconst 0, 1) := by decide +kernel
theorem dL_find_7 : decode cL_find 7 = .ok (.istore 10, 2) := by decide +kernel
theorem dL_find_9 : decode cL_find 9 = .ok (.iload 10, 2) := by decide +kernel
theorem dL_find_11 : decode cL_find 11 = .ok (.iload 7, 2) := by decide +kernel
theorem dL_find_13 : decode cL_find 13 = .ok (.if_icmp .ge 70, 3) := by decide +kernel
theorem dL_find_16 : decode cL_find 16 = .ok (.aload_n 0, 1) := by decide +kernel
theorem dL_find_17 : decode cL_find 17 = .ok (.iload 10, 2) := by decide +kernel
theorem dL_find_19 : decode cL_find 19 = .ok (.iaload, 1) := by decide +kernel
theorem dL_find_20 : decode cL_find 20 = .ok (.iload 4, 2) := by decide +kernel
theorem dL_find_22 : decode cL_find 22 = .ok (.if_icmp .ne 55, 3) := by decide +kernel
theorem dL_find_25 : decode cL_find 25 = .ok (.aload_n 1, 1) := by decide +kernel
theorem dL_find_26 : decode cL_find 26 = .ok (.iload 10, 2) := by decide +kernel
theorem dL_find_28 : decode cL_find 28 = .ok (.iaload, 1) := by decide +kernel
theorem dL_find_29 : decode cL_find 29 = .ok (.iload 5, 2) := by decide +kernel
theorem dL_find_31 : decode cL_find 31 = .ok (.if_icmp .gt 46, 3) := by decide +kernel
theorem dL_find_34 : decode cL_find 34 = .ok (.aload_n 2, 1) := by decide +kernel
theorem dL_find_35 : decode cL_find 35 = .ok (.iload 10, 2) := by decide +kernel
theorem dL_find_37 : decode cL_find 37 = .ok (.iaload, 1) := by decide +kernel
theorem dL_find_38 : decode cL_find 38 = .ok (.iload 6, 2) := by decide +kernel
theorem dL_find_40 : decode cL_find 40 = .ok (.if_icmp .gt 37, 3) := by decide +kernel
theorem dL_find_43 : decode cL_find 43 = .ok (.bipush 64, 2) := by decide +kernel
theorem dL_find_45 : decode cL_find 45 = .ok (.aload_n 1, 1) := by decide +kernel
theorem dL_find_46 : decode cL_find 46 = .ok (.iload 10, 2) := by decide +kernel
theorem dL_find_48 : decode cL_find 48 = .ok (.iaload, 1) := by decide +kernel
theorem dL_find_49 : decode cL_find 49 = .ok (.imul, 1) := by decide +kernel
theorem dL_find_50 : decode cL_find 50 = .ok (.iload 10, 2) := by decide +kernel
theorem dL_find_52 : decode cL_find 52 = .ok (.iadd, 1) := by decide +kernel
theorem dL_find_53 : decode cL_find 53 = .ok (.iload 9, 2) := by decide +kernel
theorem dL_find_55 : decode cL_find 55 = .ok (.if_icmp .ge 6, 3) := by decide +kernel
theorem dL_find_58 : decode cL_find 58 = .ok (.goto 19, 3) := by decide +kernel
theorem dL_find_61 : decode cL_find 61 = .ok (.bipush 64, 2) := by decide +kernel
theorem dL_find_63 : decode cL_find 63 = .ok (.aload_n 1, 1) := by decide +kernel
theorem dL_find_64 : decode cL_find 64 = .ok (.iload 10, 2) := by decide +kernel
theorem dL_find_66 : decode cL_find 66 = .ok (.iaload, 1) := by decide +kernel
theorem dL_find_67 : decode cL_find 67 = .ok (.imul, 1) := by decide +kernel
theorem dL_find_68 : decode cL_find 68 = .ok (.iload 10, 2) := by decide +kernel
theorem dL_find_70 : decode cL_find 70 = .ok (.iadd, 1) := by decide +kernel
theorem dL_find_71 : decode cL_find 71 = .ok (.istore 9, 2) := by decide +kernel
theorem dL_find_73 : decode cL_find 73 = .ok (.iload 10, 2) := by decide +kernel
theorem dL_find_75 : decode cL_find 75 = .ok (.istore 8, 2) := by decide +kernel
theorem dL_find_77 : decode cL_find 77 = .ok (.iinc 10 1, 3) := by decide +kernel
theorem dL_find_80 : decode cL_find 80 = .ok (.goto (-71), 3) := by decide +kernel
theorem dL_find_83 : decode cL_find 83 = .ok (.iload 8, 2) := by decide +kernel
theorem dL_find_85 : decode cL_find 85 = .ok (.ifCond .lt 25, 3) := by decide +kernel
theorem dL_find_88 : decode cL_find 88 = .ok (.iload 5, 2) := by decide +kernel
theorem dL_find_90 : decode cL_find 90 = .ok (.aload_n 1, 1) := by decide +kernel
theorem dL_find_91 : decode cL_find 91 = .ok (.iload 8, 2) := by decide +kernel
theorem dL_find_93 : decode cL_find 93 = .ok (.iaload, 1) := by decide +kernel
theorem dL_find_94 : decode cL_find 94 = .ok (.isub, 1) := by decide +kernel
theorem dL_find_95 : decode cL_find 95 = .ok (.aload_n 3, 1) := by decide +kernel
theorem dL_find_96 : decode cL_find 96 = .ok (.iload 4, 2) := by decide +kernel
theorem dL_find_98 : decode cL_find 98 = .ok (.bipush 8, 2) := by decide +kernel
theorem dL_find_100 : decode cL_find 100 = .ok (.irem, 1) := by decide +kernel
theorem dL_find_101 : decode cL_find 101 = .ok (.iaload, 1) := by decide +kernel
theorem dL_find_102 : decode cL_find 102 = .ok (.if_icmp .gt 8, 3) := by decide +kernel
theorem dL_find_105 : decode cL_find 105 = .ok (.iload 8, 2) := by decide +kernel
theorem dL_find_107 : decode cL_find 107 = .ok (.goto 4, 3) := by decide +kernel
theorem dL_find_110 : decode cL_find 110 = .ok (.iconst (-1), 1) := by decide +kernel
theorem dL_find_111 : decode cL_find 111 = .ok (.ireturn, 1) := by decide +kernel
set_option maxRecDepth 20000 in
theorem ggL_copied_L_find : GoodIn wsL_copied wsL_find := goodIn_r _ [4] (by decide +kernel) (by decide +kernel)
set_option maxRecDepth 20000 in
theorem gL_copied_L_find : GoodIn wsL_copied (va_wsS RL 66 yL_find wsL_find) := goodIn_app (goodIn_of _ (by decide +kernel)) ggL_copied_L_find
theorem dL_copied_0 : decode cL_copied 0 = .ok (.aload_n 0, 1) := by decide +kernel
theorem dL_copied_1 : decode cL_copied 1 = .ok (.aload_n 1, 1) := by decide +kernel
theorem dL_copied_2 : decode cL_copied 2 = .ok (.aload_n 2, 1) := by decide +kernel
theorem dL_copied_3 : decode cL_copied 3 = .ok (.aload_n 3, 1) := by decide +kernel
theorem dL_copied_4 : decode cL_copied 4 = .ok (.iload 5, 2) := by decide +kernel
theorem dL_copied_6 : decode cL_copied 6 = .ok (.aload 4, 2) := by decide +kernel
theorem dL_copied_8 : decode cL_copied 8 = .ok (.iconst 0, 1) := by decide +kernel
theorem dL_copied_9 : decode cL_copied 9 = .ok (.iaload, 1) := by decide +kernel
theorem dL_copied_10 : decode cL_copied 10 = .ok (.aload 4, 2) := by decide +kernel
theorem dL_copied_12 : decode cL_copied 12 = .ok (.iconst 0, 1) := by decide +kernel
theorem dL_copied_13 : decode cL_copied 13 = .ok (.iaload, 1) := by decide +kernel
theorem dL_copied_14 : decode cL_copied 14 = .ok (.aload 4, 2) := by decide +kernel
theorem dL_copied_16 : decode cL_copied 16 = .ok (.iconst 2, 1) := by decide +kernel
theorem dL_copied_17 : decode cL_copied 17 = .ok (.iaload, 1) := by decide +kernel
theorem dL_copied_18 : decode cL_copied 18 = .ok (.invokestatic 66, 3) := by decide +kernel
theorem dL_copied_21 : decode cL_copied 21 = .ok (.ireturn, 1) := by decide +kernel
set_option maxRecDepth 20000 in
theorem ggL_keeps_L_low : GoodIn wsL_keeps wsL_low := goodIn_r _ [5] (by decide +kernel) (by decide +kernel)
set_option maxRecDepth 20000 in
theorem gL_keeps_L_low : GoodIn wsL_keeps (va_wsS RL 72 yL_low wsL_low) := goodIn_app (goodIn_of _ (by decide +kernel)) ggL_keeps_L_low
set_option maxRecDepth 20000 in
theorem ggL_keeps_L_arrive : GoodIn wsL_keeps wsL_arrive := goodIn_ca (goodIn_ca (goodIn_r _ [8, 9, 10, 11, 12, 13, 14, 15, 16, 17, 18, 19, 20, 21, 22, 23, 24, 25, 26, 27, 28, 29, 30, 31, 32, 33, 34, 35, 36, 37, 38, 39, 40, 41, 42, 43, 44, 45, 46, 47, 48, 49, 50, 51, 52, 53, 54, 55, 56, 132, 133, 134, 135, 136, 137, 138, 139, 140, 141, 142, 143, 144, 145, 146, 147] (by decide +kernel) (by decide +kernel)) (goodIn_sub (fun _ h => List.mem_cons_of_mem _ (List.mem_append_left _ (List.mem_append_right _ h))) (by decide +kernel))) (goodIn_sub (fun _ h => List.mem_cons_of_mem _ (List.mem_append_right _ h)) (by decide +kernel))
set_option maxRecDepth 20000 in
theorem gL_keeps_L_arrive : GoodIn wsL_keeps (va_wsS RL 76 yL_arrive wsL_arrive) := goodIn_app (goodIn_of _ (by decide +kernel)) ggL_keeps_L_arrive
set_option maxRecDepth 20000 in
theorem ggL_keeps_X2_rows : GoodIn wsL_keeps wsX2_rows := goodIn_r _ [60, 19, 132, 133, 134, 135, 136, 137, 138, 139, 140] (by decide +kernel) (by decide +kernel)
set_option maxRecDepth 20000 in
theorem gL_keeps_X2_rows : GoodIn wsL_keeps (wsV RL 79 RX2 yX2_rows wsX2_rows) := goodIn_app (goodIn_of _ (by decide +kernel)) ggL_keeps_X2_rows
set_option maxRecDepth 20000 in
theorem ggL_keeps_L_pass : GoodIn wsL_keeps wsL_pass := goodIn_ca (goodIn_ca (goodIn_r _ [63, 9, 64, 65, 66, 67, 13, 68, 15, 16, 17, 28, 29, 30, 31, 32, 132, 133, 134, 135, 136, 137, 138, 139, 140] (by decide +kernel) (by decide +kernel)) (goodIn_sub (fun _ h => List.mem_cons_of_mem _ (List.mem_append_left _ (List.mem_append_right _ h))) (by decide +kernel))) (goodIn_sub (fun _ h => List.mem_cons_of_mem _ (List.mem_append_right _ h)) (by decide +kernel))
set_option maxRecDepth 20000 in
theorem gL_keeps_L_pass : GoodIn wsL_keeps (va_wsS RL 83 yL_pass wsL_pass) := goodIn_app (goodIn_of _ (by decide +kernel)) ggL_keeps_L_pass
set_option maxRecDepth 20000 in
theorem ggL_keeps_L_setLifetime : GoodIn wsL_keeps wsL_setLifetime := goodIn_ca (goodIn_r _ [71, 9, 72, 73, 74, 13, 75, 76, 28, 29, 30, 31, 32, 132, 133, 134, 135, 136, 137, 138, 139, 140] (by decide +kernel) (by decide +kernel)) (goodIn_sub (fun _ h => List.mem_cons_of_mem _ (List.mem_append_right _ h)) (by decide +kernel))
set_option maxRecDepth 20000 in
theorem gL_keeps_L_setLifetime : GoodIn wsL_keeps (va_wsS RL 86 yL_setLifetime wsL_setLifetime) := goodIn_app (goodIn_of _ (by decide +kernel)) ggL_keeps_L_setLifetime
set_option maxRecDepth 20000 in
theorem ggL_keeps_L_take : GoodIn wsL_keeps wsL_take := goodIn_ca (goodIn_r _ [79, 9, 80, 81, 82, 13, 83, 84, 28, 29, 30, 31, 32, 85, 86, 87, 88, 19, 23, 89, 90, 91, 92, 49, 50, 93, 52, 54, 55, 56, 132, 133, 134, 135, 136, 137, 138, 139, 140, 141, 142, 143, 144, 145, 146, 147] (by decide +kernel) (by decide +kernel)) (goodIn_sub (fun _ h => List.mem_cons_of_mem _ (List.mem_append_right _ h)) (by decide +kernel))
set_option maxRecDepth 20000 in
theorem gL_keeps_L_take : GoodIn wsL_keeps (va_wsS RL 89 yL_take wsL_take) := goodIn_app (goodIn_of _ (by decide +kernel)) ggL_keeps_L_take
set_option maxRecDepth 20000 in
theorem ggL_keeps_L_serve : GoodIn wsL_keeps wsL_serve := goodIn_ca (goodIn_ca (goodIn_r _ [96, 9, 97, 98, 99, 13, 100, 15, 16, 101, 102, 103, 104, 105, 17, 25, 26, 27, 28, 29, 30, 31, 32, 106, 107, 108, 109, 93, 54, 55, 56, 110, 111, 112, 113, 52, 76, 49, 24, 114, 115, 116, 117, 37, 38, 118, 119, 120, 121, 132, 133, 134, 135, 136, 137, 138, 139, 140, 148, 149, 150, 151, 141, 142, 143, 144, 145, 146, 147] (by decide +kernel) (by decide +kernel)) (goodIn_sub (fun _ h => List.mem_cons_of_mem _ (List.mem_append_left _ (List.mem_append_right _ h))) (by decide +kernel))) (goodIn_sub (fun _ h => List.mem_cons_of_mem _ (List.mem_append_right _ h)) (by decide +kernel))
set_option maxRecDepth 20000 in
theorem gL_keeps_L_serve : GoodIn wsL_keeps (va_wsS RL 91 yL_serve wsL_serve) := goodIn_app (goodIn_of _ (by decide +kernel)) ggL_keeps_L_serve
set_option maxRecDepth 20000 in
theorem ggL_keeps_X2_servings : GoodIn wsL_keeps wsX2_servings := goodIn_r _ [125, 101, 132, 133, 134, 135, 136, 137, 138, 139, 140] (by decide +kernel) (by decide +kernel)
set_option maxRecDepth 20000 in
theorem gL_keeps_X2_servings : GoodIn wsL_keeps (wsV RL 93 RX2 yX2_servings wsX2_servings) := goodIn_app (goodIn_of _ (by decide +kernel)) ggL_keeps_X2_servings
set_option maxRecDepth 20000 in
theorem ggL_keeps_L_copied : GoodIn wsL_keeps wsL_copied := goodIn_r _ [128, 129, 130, 4, 131] (by decide +kernel) (by decide +kernel)
set_option maxRecDepth 20000 in
theorem gL_keeps_L_copied : GoodIn wsL_keeps (va_wsS RL 96 yL_copied wsL_copied) := goodIn_app (goodIn_of _ (by decide +kernel)) ggL_keeps_L_copied
theorem dL_keeps_0 : decode cL_keeps 0 = .ok (.iload_n 2, 1) := by decide +kernel
theorem dL_keeps_1 : decode cL_keeps 1 = .ok (.bipush 24, 2) := by decide +kernel
theorem dL_keeps_3 : decode cL_keeps 3 = .ok (.iand, 1) := by decide +kernel
theorem dL_keeps_4 : decode cL_keeps 4 = .ok (.ifCond .ne 14, 3) := by decide +kernel
theorem dL_keeps_7 : decode cL_keeps 7 = .ok (.iload_n 2, 1) := by decide +kernel
theorem dL_keeps_8 : decode cL_keeps 8 = .ok (.iconst 5, 1) := by decide +kernel
theorem dL_keeps_9 : decode cL_keeps 9 = .ok (.ishr, 1) := by decide +kernel
theorem dL_keeps_10 : decode cL_keeps 10 = .ok (.bipush 6, 2) := by decide +kernel
theorem dL_keeps_12 : decode cL_keeps 12 = .ok (.invokestatic 72, 3) := by decide +kernel
theorem dL_keeps_15 : decode cL_keeps 15 = .ok (.goto 10, 3) := by decide +kernel
theorem dL_keeps_18 : decode cL_keeps 18 = .ok (.iload_n 2, 1) := by decide +kernel
theorem dL_keeps_19 : decode cL_keeps 19 = .ok (.iconst 5, 1) := by decide +kernel
theorem dL_keeps_20 : decode cL_keeps 20 = .ok (.ishr, 1) := by decide +kernel
theorem dL_keeps_21 : decode cL_keeps 21 = .ok (.iconst 2, 1) := by decide +kernel
theorem dL_keeps_22 : decode cL_keeps 22 = .ok (.invokestatic 72, 3) := by decide +kernel
theorem dL_keeps_25 : decode cL_keeps 25 = .ok (.istore 12, 2) := by decide +kernel
theorem dL_keeps_27 : decode cL_keeps 27 = .ok (.iload_n 2, 1) := by decide +kernel
theorem dL_keeps_28 : decode cL_keeps 28 = .ok (.sipush 768, 3) := by decide +kernel
theorem dL_keeps_31 : decode cL_keeps 31 = .ok (.iand, 1) := by decide +kernel
theorem dL_keeps_32 : decode cL_keeps 32 = .ok (.ifCond .ne 15, 3) := by decide +kernel
theorem dL_keeps_35 : decode cL_keeps 35 = .ok (.iload_n 2, 1) := by decide +kernel
theorem dL_keeps_36 : decode cL_keeps 36 = .ok (.bipush 10, 2) := by decide +kernel
theorem dL_keeps_38 : decode cL_keeps 38 = .ok (.ishr, 1) := by decide +kernel
theorem dL_keeps_39 : decode cL_keeps 39 = .ok (.bipush 10, 2) := by decide +kernel
theorem dL_keeps_41 : decode cL_keeps 41 = .ok (.invokestatic 72, 3) := by decide +kernel
theorem dL_keeps_44 : decode cL_keeps 44 = .ok (.goto 11, 3) := by decide +kernel
theorem dL_keeps_47 : decode cL_keeps 47 = .ok (.iload_n 2, 1) := by decide +kernel
theorem dL_keeps_48 : decode cL_keeps 48 = .ok (.bipush 10, 2) := by decide +kernel
theorem dL_keeps_50 : decode cL_keeps 50 = .ok (.ishr, 1) := by decide +kernel
theorem dL_keeps_51 : decode cL_keeps 51 = .ok (.iconst 2, 1) := by decide +kernel
theorem dL_keeps_52 : decode cL_keeps 52 = .ok (.invokestatic 72, 3) := by decide +kernel
theorem dL_keeps_55 : decode cL_keeps 55 = .ok (.istore 13, 2) := by decide +kernel
theorem dL_keeps_57 : decode cL_keeps 57 = .ok (.iload 12, 2) := by decide +kernel
theorem dL_keeps_59 : decode cL_keeps 59 = .ok (.bipush 8, 2) := by decide +kernel
theorem dL_keeps_61 : decode cL_keeps 61 = .ok (.iload 13, 2) := by decide +kernel
theorem dL_keeps_63 : decode cL_keeps 63 = .ok (.imul, 1) := by decide +kernel
theorem dL_keeps_64 : decode cL_keeps 64 = .ok (.iadd, 1) := by decide +kernel
theorem dL_keeps_65 : decode cL_keeps 65 = .ok (.istore 14, 2) := by decide +kernel
theorem dL_keeps_67 : decode cL_keeps 67 = .ok (.iload_n 1, 1) := by decide +kernel
theorem dL_keeps_68 : decode cL_keeps 68 = .ok (.bipush 8, 2) := by decide +kernel
theorem dL_keeps_70 : decode cL_keeps 70 = .ok (.if_icmp .ge 318, 3) := by decide +kernel
theorem dL_keeps_73 : decode cL_keeps 73 = .ok (.iload_n 3, 1) := by decide +kernel
theorem dL_keeps_74 : decode cL_keeps 74 = .ok (.bipush 6, 2) := by decide +kernel
theorem dL_keeps_76 : decode cL_keeps 76 = .ok (.iand, 1) := by decide +kernel
theorem dL_keeps_77 : decode cL_keeps 77 = .ok (.ifCond .ne 10, 3) := by decide +kernel
theorem dL_keeps_80 : decode cL_keeps 80 = .ok (.aload 11, 2) := by decide +kernel
theorem dL_keeps_82 : decode cL_keeps 82 = .ok (.iconst 0, 1) := by decide +kernel
theorem dL_keeps_83 : decode cL_keeps 83 = .ok (.iaload, 1) := by decide +kernel
theorem dL_keeps_84 : decode cL_keeps 84 = .ok (.goto 39, 3) := by decide +kernel
theorem dL_keeps_87 : decode cL_keeps 87 = .ok (.iload_n 3, 1) := by decide +kernel
theorem dL_keeps_88 : decode cL_keeps 88 = .ok (.bipush 6, 2) := by decide +kernel
theorem dL_keeps_90 : decode cL_keeps 90 = .ok (.iand, 1) := by decide +kernel
theorem dL_keeps_91 : decode cL_keeps 91 = .ok (.iconst 2, 1) := by decide +kernel
theorem dL_keeps_92 : decode cL_keeps 92 = .ok (.if_icmp .ne 18, 3) := by decide +kernel
theorem dL_keeps_95 : decode cL_keeps 95 = .ok (.iload_n 3, 1) := by decide +kernel
theorem dL_keeps_96 : decode cL_keeps 96 = .ok (.iconst 3, 1) := by decide +kernel
theorem dL_keeps_97 : decode cL_keeps 97 = .ok (.ishr, 1) := by decide +kernel
theorem dL_keeps_98 : decode cL_keeps 98 = .ok (.aload 11, 2) := by decide +kernel
theorem dL_keeps_100 : decode cL_keeps 100 = .ok (.iconst 0, 1) := by decide +kernel
theorem dL_keeps_101 : decode cL_keeps 101 = .ok (.iaload, 1) := by decide +kernel
theorem dL_keeps_102 : decode cL_keeps 102 = .ok (.iconst 1, 1) := by decide +kernel
theorem dL_keeps_103 : decode cL_keeps 103 = .ok (.iadd, 1) := by decide +kernel
theorem dL_keeps_104 : decode cL_keeps 104 = .ok (.invokestatic 72, 3) := by decide +kernel
theorem dL_keeps_107 : decode cL_keeps 107 = .ok (.goto 16, 3) := by decide +kernel
theorem dL_keeps_110 : decode cL_keeps 110 = .ok (.aload 11, 2) := by decide +kernel
theorem dL_keeps_112 : decode cL_keeps 112 = .ok (.iconst 0, 1) := by decide +kernel
theorem dL_keeps_113 : decode cL_keeps 113 = .ok (.iaload, 1) := by decide +kernel
theorem dL_keeps_114 : decode cL_keeps 114 = .ok (.iload_n 3, 1) := by decide +kernel
theorem dL_keeps_115 : decode cL_keeps 115 = .ok (.iconst 3, 1) := by decide +kernel
theorem dL_keeps_116 : decode cL_keeps 116 = .ok (.ishr, 1) := by decide +kernel
theorem dL_keeps_117 : decode cL_keeps 117 = .ok (.bipush 30, 2) := by decide +kernel
theorem dL_keeps_119 : decode cL_keeps 119 = .ok (.invokestatic 72, 3) := by decide +kernel
theorem dL_keeps_122 : decode cL_keeps 122 = .ok (.isub, 1) := by decide +kernel
theorem dL_keeps_123 : decode cL_keeps 123 = .ok (.istore 15, 2) := by decide +kernel
theorem dL_keeps_125 : decode cL_keeps 125 = .ok (.iload 15, 2) := by decide +kernel
theorem dL_keeps_127 : decode cL_keeps 127 = .ok (.ifCond .ge 7, 3) := by decide +kernel
theorem dL_keeps_130 : decode cL_keeps 130 = .ok (.iconst 0, 1) := by decide +kernel
theorem dL_keeps_131 : decode cL_keeps 131 = .ok (.goto 5, 3) := by decide +kernel
theorem dL_keeps_134 : decode cL_keeps 134 = .ok (.iload 15, 2) := by decide +kernel
theorem dL_keeps_136 : decode cL_keeps 136 = .ok (.istore 15, 2) := by decide +kernel
theorem dL_keeps_138 : decode cL_keeps 138 = .ok (.iload_n 3, 1) := by decide +kernel
theorem dL_keeps_139 : decode cL_keeps 139 = .ok (.sipush 24576, 3) := by decide +kernel
theorem dL_keeps_142 : decode cL_keeps 142 = .ok (.iand, 1) := by decide +kernel
theorem dL_keeps_143 : decode cL_keeps 143 = .ok (.ifCond .ne 15, 3) := by decide +kernel
theorem dL_keeps_146 : decode cL_keeps 146 = .ok (.iload_n 3, 1) := by decide +kernel
theorem dL_keeps_147 : decode cL_keeps 147 = .ok (.bipush 15, 2) := by decide +kernel
theorem dL_keeps_149 : decode cL_keeps 149 = .ok (.ishr, 1) := by decide +kernel
theorem dL_keeps_150 : decode cL_keeps 150 = .ok (.ldc 75, 2) := by decide +kernel
theorem dL_keeps_152 : decode cL_keeps 152 = .ok (.invokestatic 72, 3) := by decide +kernel
theorem dL_keeps_155 : decode cL_keeps 155 = .ok (.goto 12, 3) := by decide +kernel
theorem dL_keeps_158 : decode cL_keeps 158 = .ok (.iload_n 3, 1) := by decide +kernel
theorem dL_keeps_159 : decode cL_keeps 159 = .ok (.bipush 15, 2) := by decide +kernel
theorem dL_keeps_161 : decode cL_keeps 161 = .ok (.ishr, 1) := by decide +kernel
theorem dL_keeps_162 : decode cL_keeps 162 = .ok (.bipush 50, 2) := by decide +kernel
theorem dL_keeps_164 : decode cL_keeps 164 = .ok (.invokestatic 72, 3) := by decide +kernel
theorem dL_keeps_167 : decode cL_keeps 167 = .ok (.istore 16, 2) := by decide +kernel
theorem dL_keeps_169 : decode cL_keeps 169 = .ok (.aload_n 0, 1) := by decide +kernel
theorem dL_keeps_170 : decode cL_keeps 170 = .ok (.bipush 6, 2) := by decide +kernel
theorem dL_keeps_172 : decode cL_keeps 172 = .ok (.iload 13, 2) := by decide +kernel
theorem dL_keeps_174 : decode cL_keeps 174 = .ok (.iload 15, 2) := by decide +kernel
theorem dL_keeps_176 : decode cL_keeps 176 = .ok (.iload 16, 2) := by decide +kernel
theorem dL_keeps_178 : decode cL_keeps 178 = .ok (.invokestatic 76, 3) := by decide +kernel
theorem dL_keeps_181 : decode cL_keeps 181 = .ok (.bipush (-72), 2) := by decide +kernel
theorem dL_keeps_183 : decode cL_keeps 183 = .ok (.if_icmp .ne 106, 3) := by decide +kernel
theorem dL_keeps_186 : decode cL_keeps 186 = .ok (.aload_n 0, 1) := by decide +kernel
theorem dL_keeps_187 : decode cL_keeps 187 = .ok (.iload 12, 2) := by decide +kernel
theorem dL_keeps_189 : decode cL_keeps 189 = .ok (.bipush 10, 2) := by decide +kernel
theorem dL_keeps_191 : decode cL_keeps 191 = .ok (.iload 15, 2) := by decide +kernel
theorem dL_keeps_193 : decode cL_keeps 193 = .ok (.iload 16, 2) := by decide +kernel
theorem dL_keeps_195 : decode cL_keeps 195 = .ok (.invokestatic 76, 3) := by decide +kernel
theorem dL_keeps_198 : decode cL_keeps 198 = .ok (.bipush (-72), 2) := by decide +kernel
theorem dL_keeps_200 : decode cL_keeps 200 = .ok (.if_icmp .ne 89, 3) := by decide +kernel
theorem dL_keeps_203 : decode cL_keeps 203 = .ok (.aload_n 0, 1) := by decide +kernel
theorem dL_keeps_204 : decode cL_keeps 204 = .ok (.iload 12, 2) := by decide +kernel
theorem dL_keeps_206 : decode cL_keeps 206 = .ok (.iload 13, 2) := by decide +kernel
theorem dL_keeps_208 : decode cL_keeps 208 = .ok (.aload 11, 2) := by decide +kernel
theorem dL_keeps_210 : decode cL_keeps 210 = .ok (.iconst 0, 1) := by decide +kernel
theorem dL_keeps_211 : decode cL_keeps 211 = .ok (.iaload, 1) := by decide +kernel
theorem dL_keeps_212 : decode cL_keeps 212 = .ok (.iconst 1, 1) := by decide +kernel
theorem dL_keeps_213 : decode cL_keeps 213 = .ok (.iadd, 1) := by decide +kernel
theorem dL_keeps_214 : decode cL_keeps 214 = .ok (.iload 16, 2) := by decide +kernel
theorem dL_keeps_216 : decode cL_keeps 216 = .ok (.invokestatic 76, 3) := by decide +kernel
theorem dL_keeps_219 : decode cL_keeps 219 = .ok (.bipush (-72), 2) := by decide +kernel
theorem dL_keeps_221 : decode cL_keeps 221 = .ok (.if_icmp .ne 68, 3) := by decide +kernel
theorem dL_keeps_224 : decode cL_keeps 224 = .ok (.aload_n 0, 1) := by decide +kernel
theorem dL_keeps_225 : decode cL_keeps 225 = .ok (.iload 12, 2) := by decide +kernel
theorem dL_keeps_227 : decode cL_keeps 227 = .ok (.iload 13, 2) := by decide +kernel
theorem dL_keeps_229 : decode cL_keeps 229 = .ok (.iconst (-1), 1) := by decide +kernel
theorem dL_keeps_230 : decode cL_keeps 230 = .ok (.iload 16, 2) := by decide +kernel
theorem dL_keeps_232 : decode cL_keeps 232 = .ok (.invokestatic 76, 3) := by decide +kernel
theorem dL_keeps_235 : decode cL_keeps 235 = .ok (.bipush (-72), 2) := by decide +kernel
theorem dL_keeps_237 : decode cL_keeps 237 = .ok (.if_icmp .ne 52, 3) := by decide +kernel
theorem dL_keeps_240 : decode cL_keeps 240 = .ok (.aload_n 0, 1) := by decide +kernel
theorem dL_keeps_241 : decode cL_keeps 241 = .ok (.iload 12, 2) := by decide +kernel
theorem dL_keeps_243 : decode cL_keeps 243 = .ok (.iload 13, 2) := by decide +kernel
theorem dL_keeps_245 : decode cL_keeps 245 = .ok (.iload 15, 2) := by decide +kernel
theorem dL_keeps_247 : decode cL_keeps 247 = .ok (.ldc 75, 2) := by decide +kernel
theorem dL_keeps_249 : decode cL_keeps 249 = .ok (.invokestatic 76, 3) := by decide +kernel
theorem dL_keeps_252 : decode cL_keeps 252 = .ok (.bipush (-72), 2) := by decide +kernel
theorem dL_keeps_254 : decode cL_keeps 254 = .ok (.if_icmp .ne 35, 3) := by decide +kernel
theorem dL_keeps_257 : decode cL_keeps 257 = .ok (.aload_n 0, 1) := by decide +kernel
theorem dL_keeps_258 : decode cL_keeps 258 = .ok (.iload 12, 2) := by decide +kernel
theorem dL_keeps_260 : decode cL_keeps 260 = .ok (.iload 13, 2) := by decide +kernel
theorem dL_keeps_262 : decode cL_keeps 262 = .ok (.iload 15, 2) := by decide +kernel
theorem dL_keeps_264 : decode cL_keeps 264 = .ok (.iconst (-1), 1) := by decide +kernel
theorem dL_keeps_265 : decode cL_keeps 265 = .ok (.invokestatic 76, 3) := by decide +kernel
theorem dL_keeps_268 : decode cL_keeps 268 = .ok (.bipush (-72), 2) := by decide +kernel
theorem dL_keeps_270 : decode cL_keeps 270 = .ok (.if_icmp .ne 19, 3) := by decide +kernel
theorem dL_keeps_273 : decode cL_keeps 273 = .ok (.aload_n 0, 1) := by decide +kernel
theorem dL_keeps_274 : decode cL_keeps 274 = .ok (.iconst (-1), 1) := by decide +kernel
theorem dL_keeps_275 : decode cL_keeps 275 = .ok (.iload 13, 2) := by decide +kernel
theorem dL_keeps_277 : decode cL_keeps 277 = .ok (.iload 15, 2) := by decide +kernel
theorem dL_keeps_279 : decode cL_keeps 279 = .ok (.iload 16, 2) := by decide +kernel
theorem dL_keeps_281 : decode cL_keeps 281 = .ok (.invokestatic 76, 3) := by decide +kernel
theorem dL_keeps_284 : decode cL_keeps 284 = .ok (.bipush (-72), 2) := by decide +kernel
theorem dL_keeps_286 : decode cL_keeps 286 = .ok (.if_icmp .eq 5, 3) := by decide +kernel
theorem dL_keeps_289 : decode cL_keeps 289 = .ok (.iconst 0, 1) := by decide +kernel
theorem dL_keeps_290 : decode cL_keeps 290 = .ok (.ireturn, 1) := by decide +kernel
theorem dL_keeps_291 : decode cL_keeps 291 = .ok (.aload 11, 2) := by decide +kernel
theorem dL_keeps_293 : decode cL_keeps 293 = .ok (.iconst 1, 1) := by decide +kernel
theorem dL_keeps_294 : decode cL_keeps 294 = .ok (.iaload, 1) := by decide +kernel
theorem dL_keeps_295 : decode cL_keeps 295 = .ok (.bipush 60, 2) := by decide +kernel
theorem dL_keeps_297 : decode cL_keeps 297 = .ok (.if_icmp .ne 18, 3) := by decide +kernel
theorem dL_keeps_300 : decode cL_keeps 300 = .ok (.aload_n 0, 1) := by decide +kernel
theorem dL_keeps_301 : decode cL_keeps 301 = .ok (.invokevirtual 79, 3) := by decide +kernel
theorem dL_keeps_304 : decode cL_keeps 304 = .ok (.bipush 60, 2) := by decide +kernel
theorem dL_keeps_306 : decode cL_keeps 306 = .ok (.if_icmp .ne 7, 3) := by decide +kernel
theorem dL_keeps_309 : decode cL_keeps 309 = .ok (.iconst 1, 1) := by decide +kernel
theorem dL_keeps_310 : decode cL_keeps 310 = .ok (.goto 4, 3) := by decide +kernel
theorem dL_keeps_313 : decode cL_keeps 313 = .ok (.iconst 0, 1) := by decide +kernel
theorem dL_keeps_314 : decode cL_keeps 314 = .ok (.ireturn, 1) := by decide +kernel
theorem dL_keeps_315 : decode cL_keeps 315 = .ok (.aload 4, 2) := by decide +kernel
theorem dL_keeps_317 : decode cL_keeps 317 = .ok (.aload 11, 2) := by decide +kernel
theorem dL_keeps_319 : decode cL_keeps 319 = .ok (.iconst 1, 1) := by decide +kernel
theorem dL_keeps_320 : decode cL_keeps 320 = .ok (.iaload, 1) := by decide +kernel
theorem dL_keeps_321 : decode cL_keeps 321 = .ok (.iload 14, 2) := by decide +kernel
theorem dL_keeps_323 : decode cL_keeps 323 = .ok (.iastore, 1) := by decide +kernel
theorem dL_keeps_324 : decode cL_keeps 324 = .ok (.aload 5, 2) := by decide +kernel
theorem dL_keeps_326 : decode cL_keeps 326 = .ok (.aload 11, 2) := by decide +kernel
theorem dL_keeps_328 : decode cL_keeps 328 = .ok (.iconst 1, 1) := by decide +kernel
theorem dL_keeps_329 : decode cL_keeps 329 = .ok (.iaload, 1) := by decide +kernel
theorem dL_keeps_330 : decode cL_keeps 330 = .ok (.iload 15, 2) := by decide +kernel
theorem dL_keeps_332 : decode cL_keeps 332 = .ok (.iastore, 1) := by decide +kernel
theorem dL_keeps_333 : decode cL_keeps 333 = .ok (.aload 6, 2) := by decide +kernel
theorem dL_keeps_335 : decode cL_keeps 335 = .ok (.aload 11, 2) := by decide +kernel
theorem dL_keeps_337 : decode cL_keeps 337 = .ok (.iconst 1, 1) := by decide +kernel
theorem dL_keeps_338 : decode cL_keeps 338 = .ok (.iaload, 1) := by decide +kernel
theorem dL_keeps_339 : decode cL_keeps 339 = .ok (.aload 11, 2) := by decide +kernel
theorem dL_keeps_341 : decode cL_keeps 341 = .ok (.iconst 0, 1) := by decide +kernel
theorem dL_keeps_342 : decode cL_keeps 342 = .ok (.iaload, 1) := by decide +kernel
theorem dL_keeps_343 : decode cL_keeps 343 = .ok (.iastore, 1) := by decide +kernel
theorem dL_keeps_344 : decode cL_keeps 344 = .ok (.aload 7, 2) := by decide +kernel
theorem dL_keeps_346 : decode cL_keeps 346 = .ok (.aload 11, 2) := by decide +kernel
theorem dL_keeps_348 : decode cL_keeps 348 = .ok (.iconst 1, 1) := by decide +kernel
theorem dL_keeps_349 : decode cL_keeps 349 = .ok (.iaload, 1) := by decide +kernel
theorem dL_keeps_350 : decode cL_keeps 350 = .ok (.iload 16, 2) := by decide +kernel
theorem dL_keeps_352 : decode cL_keeps 352 = .ok (.iastore, 1) := by decide +kernel
theorem dL_keeps_353 : decode cL_keeps 353 = .ok (.aload 11, 2) := by decide +kernel
theorem dL_keeps_355 : decode cL_keeps 355 = .ok (.iconst 1, 1) := by decide +kernel
theorem dL_keeps_356 : decode cL_keeps 356 = .ok (.dup2, 1) := by decide +kernel
theorem dL_keeps_357 : decode cL_keeps 357 = .ok (.iaload, 1) := by decide +kernel
theorem dL_keeps_358 : decode cL_keeps 358 = .ok (.iconst 1, 1) := by decide +kernel
theorem dL_keeps_359 : decode cL_keeps 359 = .ok (.iadd, 1) := by decide +kernel
theorem dL_keeps_360 : decode cL_keeps 360 = .ok (.iastore, 1) := by decide +kernel
theorem dL_keeps_361 : decode cL_keeps 361 = .ok (.aload_n 0, 1) := by decide +kernel
theorem dL_keeps_362 : decode cL_keeps 362 = .ok (.iload 12, 2) := by decide +kernel
theorem dL_keeps_364 : decode cL_keeps 364 = .ok (.iload 13, 2) := by decide +kernel
theorem dL_keeps_366 : decode cL_keeps 366 = .ok (.iload 15, 2) := by decide +kernel
theorem dL_keeps_368 : decode cL_keeps 368 = .ok (.iload 16, 2) := by decide +kernel
theorem dL_keeps_370 : decode cL_keeps 370 = .ok (.invokestatic 76, 3) := by decide +kernel
theorem dL_keeps_373 : decode cL_keeps 373 = .ok (.aload 11, 2) := by decide +kernel
theorem dL_keeps_375 : decode cL_keeps 375 = .ok (.iconst 1, 1) := by decide +kernel
theorem dL_keeps_376 : decode cL_keeps 376 = .ok (.iaload, 1) := by decide +kernel
theorem dL_keeps_377 : decode cL_keeps 377 = .ok (.iconst 1, 1) := by decide +kernel
theorem dL_keeps_378 : decode cL_keeps 378 = .ok (.isub, 1) := by decide +kernel
theorem dL_keeps_379 : decode cL_keeps 379 = .ok (.if_icmp .ne 7, 3) := by decide +kernel
theorem dL_keeps_382 : decode cL_keeps 382 = .ok (.iconst 1, 1) := by decide +kernel
theorem dL_keeps_383 : decode cL_keeps 383 = .ok (.goto 4, 3) := by decide +kernel
theorem dL_keeps_386 : decode cL_keeps 386 = .ok (.iconst 0, 1) := by decide +kernel
theorem dL_keeps_387 : decode cL_keeps 387 = .ok (.ireturn, 1) := by decide +kernel
theorem dL_keeps_388 : decode cL_keeps 388 = .ok (.iload_n 1, 1) := by decide +kernel
theorem dL_keeps_389 : decode cL_keeps 389 = .ok (.bipush 11, 2) := by decide +kernel
theorem dL_keeps_391 : decode cL_keeps 391 = .ok (.if_icmp .ge 138, 3) := by decide +kernel
theorem dL_keeps_394 : decode cL_keeps 394 = .ok (.iconst 1, 1) := by decide +kernel
theorem dL_keeps_395 : decode cL_keeps 395 = .ok (.iload_n 3, 1) := by decide +kernel
theorem dL_keeps_396 : decode cL_keeps 396 = .ok (.iload_n 3, 1) := by decide +kernel
theorem dL_keeps_397 : decode cL_keeps 397 = .ok (.sipush 192, 3) := by decide +kernel
theorem dL_keeps_400 : decode cL_keeps 400 = .ok (.iand, 1) := by decide +kernel
theorem dL_keeps_401 : decode cL_keeps 401 = .ok (.ifCond .ne 9, 3) := by decide +kernel
theorem dL_keeps_404 : decode cL_keeps 404 = .ok (.sipush 400, 3) := by decide +kernel
theorem dL_keeps_407 : decode cL_keeps 407 = .ok (.goto 5, 3) := by decide +kernel
theorem dL_keeps_410 : decode cL_keeps 410 = .ok (.bipush 20, 2) := by decide +kernel
theorem dL_keeps_412 : decode cL_keeps 412 = .ok (.invokestatic 72, 3) := by decide +kernel
theorem dL_keeps_415 : decode cL_keeps 415 = .ok (.iadd, 1) := by decide +kernel
theorem dL_keeps_416 : decode cL_keeps 416 = .ok (.istore 15, 2) := by decide +kernel
theorem dL_keeps_418 : decode cL_keeps 418 = .ok (.aload_n 0, 1) := by decide +kernel
theorem dL_keeps_419 : decode cL_keeps 419 = .ok (.iconst 0, 1) := by decide +kernel
theorem dL_keeps_420 : decode cL_keeps 420 = .ok (.invokestatic 83, 3) := by decide +kernel
theorem dL_keeps_423 : decode cL_keeps 423 = .ok (.bipush (-72), 2) := by decide +kernel
theorem dL_keeps_425 : decode cL_keeps 425 = .ok (.if_icmp .ne 44, 3) := by decide +kernel
theorem dL_keeps_428 : decode cL_keeps 428 = .ok (.aload_n 0, 1) := by decide +kernel
theorem dL_keeps_429 : decode cL_keeps 429 = .ok (.sipush 10001, 3) := by decide +kernel
theorem dL_keeps_432 : decode cL_keeps 432 = .ok (.invokestatic 83, 3) := by decide +kernel
theorem dL_keeps_435 : decode cL_keeps 435 = .ok (.bipush (-72), 2) := by decide +kernel
theorem dL_keeps_437 : decode cL_keeps 437 = .ok (.if_icmp .ne 32, 3) := by decide +kernel
theorem dL_keeps_440 : decode cL_keeps 440 = .ok (.aload_n 0, 1) := by decide +kernel
theorem dL_keeps_441 : decode cL_keeps 441 = .ok (.sipush 10001, 3) := by decide +kernel
theorem dL_keeps_444 : decode cL_keeps 444 = .ok (.aload 11, 2) := by decide +kernel
theorem dL_keeps_446 : decode cL_keeps 446 = .ok (.iconst 0, 1) := by decide +kernel
theorem dL_keeps_447 : decode cL_keeps 447 = .ok (.iaload, 1) := by decide +kernel
theorem dL_keeps_448 : decode cL_keeps 448 = .ok (.isub, 1) := by decide +kernel
theorem dL_keeps_449 : decode cL_keeps 449 = .ok (.invokestatic 83, 3) := by decide +kernel
theorem dL_keeps_452 : decode cL_keeps 452 = .ok (.aload 11, 2) := by decide +kernel
theorem dL_keeps_454 : decode cL_keeps 454 = .ok (.iconst 0, 1) := by decide +kernel
theorem dL_keeps_455 : decode cL_keeps 455 = .ok (.iaload, 1) := by decide +kernel
theorem dL_keeps_456 : decode cL_keeps 456 = .ok (.ifCond .ne 8, 3) := by decide +kernel
theorem dL_keeps_459 : decode cL_keeps 459 = .ok (.bipush (-72), 2) := by decide +kernel
theorem dL_keeps_461 : decode cL_keeps 461 = .ok (.goto 5, 3) := by decide +kernel
theorem dL_keeps_464 : decode cL_keeps 464 = .ok (.bipush (-73), 2) := by decide +kernel
theorem dL_keeps_466 : decode cL_keeps 466 = .ok (.if_icmp .eq 5, 3) := by decide +kernel
theorem dL_keeps_469 : decode cL_keeps 469 = .ok (.iconst 0, 1) := by decide +kernel
theorem dL_keeps_470 : decode cL_keeps 470 = .ok (.ireturn, 1) := by decide +kernel
theorem dL_keeps_471 : decode cL_keeps 471 = .ok (.aload 11, 2) := by decide +kernel
theorem dL_keeps_473 : decode cL_keeps 473 = .ok (.iconst 0, 1) := by decide +kernel
theorem dL_keeps_474 : decode cL_keeps 474 = .ok (.iaload, 1) := by decide +kernel
theorem dL_keeps_475 : decode cL_keeps 475 = .ok (.iload 15, 2) := by decide +kernel
theorem dL_keeps_477 : decode cL_keeps 477 = .ok (.iadd, 1) := by decide +kernel
theorem dL_keeps_478 : decode cL_keeps 478 = .ok (.sipush 10000, 3) := by decide +kernel
theorem dL_keeps_481 : decode cL_keeps 481 = .ok (.if_icmp .le 20, 3) := by decide +kernel
theorem dL_keeps_484 : decode cL_keeps 484 = .ok (.aload_n 0, 1) := by decide +kernel
theorem dL_keeps_485 : decode cL_keeps 485 = .ok (.iload 15, 2) := by decide +kernel
theorem dL_keeps_487 : decode cL_keeps 487 = .ok (.invokestatic 83, 3) := by decide +kernel
theorem dL_keeps_490 : decode cL_keeps 490 = .ok (.bipush (-73), 2) := by decide +kernel
theorem dL_keeps_492 : decode cL_keeps 492 = .ok (.if_icmp .ne 7, 3) := by decide +kernel
theorem dL_keeps_495 : decode cL_keeps 495 = .ok (.iconst 1, 1) := by decide +kernel
theorem dL_keeps_496 : decode cL_keeps 496 = .ok (.goto 4, 3) := by decide +kernel
theorem dL_keeps_499 : decode cL_keeps 499 = .ok (.iconst 0, 1) := by decide +kernel
theorem dL_keeps_500 : decode cL_keeps 500 = .ok (.ireturn, 1) := by decide +kernel
theorem dL_keeps_501 : decode cL_keeps 501 = .ok (.aload 11, 2) := by decide +kernel
theorem dL_keeps_503 : decode cL_keeps 503 = .ok (.iconst 0, 1) := by decide +kernel
theorem dL_keeps_504 : decode cL_keeps 504 = .ok (.dup2, 1) := by decide +kernel
theorem dL_keeps_505 : decode cL_keeps 505 = .ok (.iaload, 1) := by decide +kernel
theorem dL_keeps_506 : decode cL_keeps 506 = .ok (.iload 15, 2) := by decide +kernel
theorem dL_keeps_508 : decode cL_keeps 508 = .ok (.iadd, 1) := by decide +kernel
theorem dL_keeps_509 : decode cL_keeps 509 = .ok (.iastore, 1) := by decide +kernel
theorem dL_keeps_510 : decode cL_keeps 510 = .ok (.aload_n 0, 1) := by decide +kernel
theorem dL_keeps_511 : decode cL_keeps 511 = .ok (.iload 15, 2) := by decide +kernel
theorem dL_keeps_513 : decode cL_keeps 513 = .ok (.invokestatic 83, 3) := by decide +kernel
theorem dL_keeps_516 : decode cL_keeps 516 = .ok (.aload 11, 2) := by decide +kernel
theorem dL_keeps_518 : decode cL_keeps 518 = .ok (.iconst 0, 1) := by decide +kernel
theorem dL_keeps_519 : decode cL_keeps 519 = .ok (.iaload, 1) := by decide +kernel
theorem dL_keeps_520 : decode cL_keeps 520 = .ok (.if_icmp .ne 7, 3) := by decide +kernel
theorem dL_keeps_523 : decode cL_keeps 523 = .ok (.iconst 1, 1) := by decide +kernel
theorem dL_keeps_524 : decode cL_keeps 524 = .ok (.goto 4, 3) := by decide +kernel
theorem dL_keeps_527 : decode cL_keeps 527 = .ok (.iconst 0, 1) := by decide +kernel
theorem dL_keeps_528 : decode cL_keeps 528 = .ok (.ireturn, 1) := by decide +kernel
theorem dL_keeps_529 : decode cL_keeps 529 = .ok (.iload_n 1, 1) := by decide +kernel
theorem dL_keeps_530 : decode cL_keeps 530 = .ok (.bipush 11, 2) := by decide +kernel
theorem dL_keeps_532 : decode cL_keeps 532 = .ok (.if_icmp .ne 104, 3) := by decide +kernel
theorem dL_keeps_535 : decode cL_keeps 535 = .ok (.iload_n 3, 1) := by decide +kernel
theorem dL_keeps_536 : decode cL_keeps 536 = .ok (.bipush 6, 2) := by decide +kernel
theorem dL_keeps_538 : decode cL_keeps 538 = .ok (.iand, 1) := by decide +kernel
theorem dL_keeps_539 : decode cL_keeps 539 = .ok (.ifCond .ne 15, 3) := by decide +kernel
theorem dL_keeps_542 : decode cL_keeps 542 = .ok (.iload_n 3, 1) := by decide +kernel
theorem dL_keeps_543 : decode cL_keeps 543 = .ok (.iconst 3, 1) := by decide +kernel
theorem dL_keeps_544 : decode cL_keeps 544 = .ok (.ishr, 1) := by decide +kernel
theorem dL_keeps_545 : decode cL_keeps 545 = .ok (.sipush 10001, 3) := by decide +kernel
theorem dL_keeps_548 : decode cL_keeps 548 = .ok (.invokestatic 72, 3) := by decide +kernel
theorem dL_keeps_551 : decode cL_keeps 551 = .ok (.goto 11, 3) := by decide +kernel
theorem dL_keeps_554 : decode cL_keeps 554 = .ok (.iload_n 3, 1) := by decide +kernel
theorem dL_keeps_555 : decode cL_keeps 555 = .ok (.iconst 3, 1) := by decide +kernel
theorem dL_keeps_556 : decode cL_keeps 556 = .ok (.ishr, 1) := by decide +kernel
theorem dL_keeps_557 : decode cL_keeps 557 = .ok (.bipush 60, 2) := by decide +kernel
theorem dL_keeps_559 : decode cL_keeps 559 = .ok (.invokestatic 72, 3) := by decide +kernel
theorem dL_keeps_562 : decode cL_keeps 562 = .ok (.istore 15, 2) := by decide +kernel
theorem dL_keeps_564 : decode cL_keeps 564 = .ok (.aload 8, 2) := by decide +kernel
theorem dL_keeps_566 : decode cL_keeps 566 = .ok (.iload 12, 2) := by decide +kernel
theorem dL_keeps_568 : decode cL_keeps 568 = .ok (.iaload, 1) := by decide +kernel
theorem dL_keeps_569 : decode cL_keeps 569 = .ok (.istore 16, 2) := by decide +kernel
theorem dL_keeps_571 : decode cL_keeps 571 = .ok (.aload 8, 2) := by decide +kernel
theorem dL_keeps_573 : decode cL_keeps 573 = .ok (.iload 12, 2) := by decide +kernel
theorem dL_keeps_575 : decode cL_keeps 575 = .ok (.iload 15, 2) := by decide +kernel
theorem dL_keeps_577 : decode cL_keeps 577 = .ok (.iastore, 1) := by decide +kernel
theorem dL_keeps_578 : decode cL_keeps 578 = .ok (.aload_n 0, 1) := by decide +kernel
theorem dL_keeps_579 : decode cL_keeps 579 = .ok (.bipush 6, 2) := by decide +kernel
theorem dL_keeps_581 : decode cL_keeps 581 = .ok (.iload 15, 2) := by decide +kernel
theorem dL_keeps_583 : decode cL_keeps 583 = .ok (.invokestatic 86, 3) := by decide +kernel
theorem dL_keeps_586 : decode cL_keeps 586 = .ok (.bipush (-72), 2) := by decide +kernel
theorem dL_keeps_588 : decode cL_keeps 588 = .ok (.if_icmp .ne 46, 3) := by decide +kernel
theorem dL_keeps_591 : decode cL_keeps 591 = .ok (.aload_n 0, 1) := by decide +kernel
theorem dL_keeps_592 : decode cL_keeps 592 = .ok (.iload 12, 2) := by decide +kernel
theorem dL_keeps_594 : decode cL_keeps 594 = .ok (.sipush 10001, 3) := by decide +kernel
theorem dL_keeps_597 : decode cL_keeps 597 = .ok (.invokestatic 86, 3) := by decide +kernel
theorem dL_keeps_600 : decode cL_keeps 600 = .ok (.bipush (-72), 2) := by decide +kernel
theorem dL_keeps_602 : decode cL_keeps 602 = .ok (.if_icmp .ne 32, 3) := by decide +kernel
theorem dL_keeps_605 : decode cL_keeps 605 = .ok (.aload_n 0, 1) := by decide +kernel
theorem dL_keeps_606 : decode cL_keeps 606 = .ok (.iload 12, 2) := by decide +kernel
theorem dL_keeps_608 : decode cL_keeps 608 = .ok (.iconst (-1), 1) := by decide +kernel
theorem dL_keeps_609 : decode cL_keeps 609 = .ok (.invokestatic 86, 3) := by decide +kernel
theorem dL_keeps_612 : decode cL_keeps 612 = .ok (.bipush (-72), 2) := by decide +kernel
theorem dL_keeps_614 : decode cL_keeps 614 = .ok (.if_icmp .ne 20, 3) := by decide +kernel
theorem dL_keeps_617 : decode cL_keeps 617 = .ok (.aload_n 0, 1) := by decide +kernel
theorem dL_keeps_618 : decode cL_keeps 618 = .ok (.iload 12, 2) := by decide +kernel
theorem dL_keeps_620 : decode cL_keeps 620 = .ok (.iload 15, 2) := by decide +kernel
theorem dL_keeps_622 : decode cL_keeps 622 = .ok (.invokestatic 86, 3) := by decide +kernel
theorem dL_keeps_625 : decode cL_keeps 625 = .ok (.iload 16, 2) := by decide +kernel
theorem dL_keeps_627 : decode cL_keeps 627 = .ok (.if_icmp .ne 7, 3) := by decide +kernel
theorem dL_keeps_630 : decode cL_keeps 630 = .ok (.iconst 1, 1) := by decide +kernel
theorem dL_keeps_631 : decode cL_keeps 631 = .ok (.goto 4, 3) := by decide +kernel
theorem dL_keeps_634 : decode cL_keeps 634 = .ok (.iconst 0, 1) := by decide +kernel
theorem dL_keeps_635 : decode cL_keeps 635 = .ok (.ireturn, 1) := by decide +kernel
theorem dL_keeps_636 : decode cL_keeps 636 = .ok (.iload_n 1, 1) := by decide +kernel
theorem dL_keeps_637 : decode cL_keeps 637 = .ok (.bipush 15, 2) := by decide +kernel
theorem dL_keeps_639 : decode cL_keeps 639 = .ok (.if_icmp .ge 103, 3) := by decide +kernel
theorem dL_keeps_642 : decode cL_keeps 642 = .ok (.iconst 1, 1) := by decide +kernel
theorem dL_keeps_643 : decode cL_keeps 643 = .ok (.iload_n 3, 1) := by decide +kernel
theorem dL_keeps_644 : decode cL_keeps 644 = .ok (.iload_n 3, 1) := by decide +kernel
theorem dL_keeps_645 : decode cL_keeps 645 = .ok (.bipush 24, 2) := by decide +kernel
theorem dL_keeps_647 : decode cL_keeps 647 = .ok (.iand, 1) := by decide +kernel
theorem dL_keeps_648 : decode cL_keeps 648 = .ok (.ifCond .ne 9, 3) := by decide +kernel
theorem dL_keeps_651 : decode cL_keeps 651 = .ok (.sipush 200, 3) := by decide +kernel
theorem dL_keeps_654 : decode cL_keeps 654 = .ok (.goto 4, 3) := by decide +kernel
theorem dL_keeps_657 : decode cL_keeps 657 = .ok (.iconst 4, 1) := by decide +kernel
theorem dL_keeps_658 : decode cL_keeps 658 = .ok (.invokestatic 72, 3) := by decide +kernel
theorem dL_keeps_661 : decode cL_keeps 661 = .ok (.iadd, 1) := by decide +kernel
theorem dL_keeps_662 : decode cL_keeps 662 = .ok (.istore 15, 2) := by decide +kernel
theorem dL_keeps_664 : decode cL_keeps 664 = .ok (.aload 11, 2) := by decide +kernel
theorem dL_keeps_666 : decode cL_keeps 666 = .ok (.iconst 1, 1) := by decide +kernel
theorem dL_keeps_667 : decode cL_keeps 667 = .ok (.iaload, 1) := by decide +kernel
theorem dL_keeps_668 : decode cL_keeps 668 = .ok (.aload 11, 2) := by decide +kernel
theorem dL_keeps_670 : decode cL_keeps 670 = .ok (.iconst 2, 1) := by decide +kernel
theorem dL_keeps_671 : decode cL_keeps 671 = .ok (.iaload, 1) := by decide +kernel
theorem dL_keeps_672 : decode cL_keeps 672 = .ok (.isub, 1) := by decide +kernel
theorem dL_keeps_673 : decode cL_keeps 673 = .ok (.iload 15, 2) := by decide +kernel
theorem dL_keeps_675 : decode cL_keeps 675 = .ok (.if_icmp .ge 15, 3) := by decide +kernel
theorem dL_keeps_678 : decode cL_keeps 678 = .ok (.aload 11, 2) := by decide +kernel
theorem dL_keeps_680 : decode cL_keeps 680 = .ok (.iconst 1, 1) := by decide +kernel
theorem dL_keeps_681 : decode cL_keeps 681 = .ok (.iaload, 1) := by decide +kernel
theorem dL_keeps_682 : decode cL_keeps 682 = .ok (.aload 11, 2) := by decide +kernel
theorem dL_keeps_684 : decode cL_keeps 684 = .ok (.iconst 2, 1) := by decide +kernel
theorem dL_keeps_685 : decode cL_keeps 685 = .ok (.iaload, 1) := by decide +kernel
theorem dL_keeps_686 : decode cL_keeps 686 = .ok (.isub, 1) := by decide +kernel
theorem dL_keeps_687 : decode cL_keeps 687 = .ok (.goto 5, 3) := by decide +kernel
theorem dL_keeps_690 : decode cL_keeps 690 = .ok (.iload 15, 2) := by decide +kernel
theorem dL_keeps_692 : decode cL_keeps 692 = .ok (.istore 16, 2) := by decide +kernel
theorem dL_keeps_694 : decode cL_keeps 694 = .ok (.aload 11, 2) := by decide +kernel
theorem dL_keeps_696 : decode cL_keeps 696 = .ok (.iconst 2, 1) := by decide +kernel
theorem dL_keeps_697 : decode cL_keeps 697 = .ok (.dup2, 1) := by decide +kernel
theorem dL_keeps_698 : decode cL_keeps 698 = .ok (.iaload, 1) := by decide +kernel
theorem dL_keeps_699 : decode cL_keeps 699 = .ok (.iload 16, 2) := by decide +kernel
theorem dL_keeps_701 : decode cL_keeps 701 = .ok (.iadd, 1) := by decide +kernel
theorem dL_keeps_702 : decode cL_keeps 702 = .ok (.iastore, 1) := by decide +kernel
theorem dL_keeps_703 : decode cL_keeps 703 = .ok (.aload_n 0, 1) := by decide +kernel
theorem dL_keeps_704 : decode cL_keeps 704 = .ok (.iconst 0, 1) := by decide +kernel
theorem dL_keeps_705 : decode cL_keeps 705 = .ok (.invokestatic 89, 3) := by decide +kernel
theorem dL_keeps_708 : decode cL_keeps 708 = .ok (.bipush (-72), 2) := by decide +kernel
theorem dL_keeps_710 : decode cL_keeps 710 = .ok (.if_icmp .ne 30, 3) := by decide +kernel
theorem dL_keeps_713 : decode cL_keeps 713 = .ok (.aload_n 0, 1) := by decide +kernel
theorem dL_keeps_714 : decode cL_keeps 714 = .ok (.sipush 201, 3) := by decide +kernel
theorem dL_keeps_717 : decode cL_keeps 717 = .ok (.invokestatic 89, 3) := by decide +kernel
theorem dL_keeps_720 : decode cL_keeps 720 = .ok (.bipush (-72), 2) := by decide +kernel
theorem dL_keeps_722 : decode cL_keeps 722 = .ok (.if_icmp .ne 18, 3) := by decide +kernel
theorem dL_keeps_725 : decode cL_keeps 725 = .ok (.aload_n 0, 1) := by decide +kernel
theorem dL_keeps_726 : decode cL_keeps 726 = .ok (.iload 15, 2) := by decide +kernel
theorem dL_keeps_728 : decode cL_keeps 728 = .ok (.invokestatic 89, 3) := by decide +kernel
theorem dL_keeps_731 : decode cL_keeps 731 = .ok (.iload 16, 2) := by decide +kernel
theorem dL_keeps_733 : decode cL_keeps 733 = .ok (.if_icmp .ne 7, 3) := by decide +kernel
theorem dL_keeps_736 : decode cL_keeps 736 = .ok (.iconst 1, 1) := by decide +kernel
theorem dL_keeps_737 : decode cL_keeps 737 = .ok (.goto 4, 3) := by decide +kernel
theorem dL_keeps_740 : decode cL_keeps 740 = .ok (.iconst 0, 1) := by decide +kernel
theorem dL_keeps_741 : decode cL_keeps 741 = .ok (.ireturn, 1) := by decide +kernel
theorem dL_keeps_742 : decode cL_keeps 742 = .ok (.aload_n 0, 1) := by decide +kernel
theorem dL_keeps_743 : decode cL_keeps 743 = .ok (.iload 12, 2) := by decide +kernel
theorem dL_keeps_745 : decode cL_keeps 745 = .ok (.bipush 10, 2) := by decide +kernel
theorem dL_keeps_747 : decode cL_keeps 747 = .ok (.invokestatic 91, 3) := by decide +kernel
theorem dL_keeps_750 : decode cL_keeps 750 = .ok (.bipush (-72), 2) := by decide +kernel
theorem dL_keeps_752 : decode cL_keeps 752 = .ok (.if_icmp .ne 15, 3) := by decide +kernel
theorem dL_keeps_755 : decode cL_keeps 755 = .ok (.aload_n 0, 1) := by decide +kernel
theorem dL_keeps_756 : decode cL_keeps 756 = .ok (.iconst (-1), 1) := by decide +kernel
theorem dL_keeps_757 : decode cL_keeps 757 = .ok (.iload 13, 2) := by decide +kernel
theorem dL_keeps_759 : decode cL_keeps 759 = .ok (.invokestatic 91, 3) := by decide +kernel
theorem dL_keeps_762 : decode cL_keeps 762 = .ok (.bipush (-72), 2) := by decide +kernel
theorem dL_keeps_764 : decode cL_keeps 764 = .ok (.if_icmp .eq 5, 3) := by decide +kernel
theorem dL_keeps_767 : decode cL_keeps 767 = .ok (.iconst 0, 1) := by decide +kernel
theorem dL_keeps_768 : decode cL_keeps 768 = .ok (.ireturn, 1) := by decide +kernel
theorem dL_keeps_769 : decode cL_keeps 769 = .ok (.aload 11, 2) := by decide +kernel
theorem dL_keeps_771 : decode cL_keeps 771 = .ok (.iconst 3, 1) := by decide +kernel
theorem dL_keeps_772 : decode cL_keeps 772 = .ok (.iaload, 1) := by decide +kernel
theorem dL_keeps_773 : decode cL_keeps 773 = .ok (.bipush 60, 2) := by decide +kernel
theorem dL_keeps_775 : decode cL_keeps 775 = .ok (.if_icmp .ne 18, 3) := by decide +kernel
theorem dL_keeps_778 : decode cL_keeps 778 = .ok (.aload_n 0, 1) := by decide +kernel
theorem dL_keeps_779 : decode cL_keeps 779 = .ok (.invokevirtual 93, 3) := by decide +kernel
theorem dL_keeps_782 : decode cL_keeps 782 = .ok (.bipush 60, 2) := by decide +kernel
theorem dL_keeps_784 : decode cL_keeps 784 = .ok (.if_icmp .ne 7, 3) := by decide +kernel
theorem dL_keeps_787 : decode cL_keeps 787 = .ok (.iconst 1, 1) := by decide +kernel
theorem dL_keeps_788 : decode cL_keeps 788 = .ok (.goto 4, 3) := by decide +kernel
theorem dL_keeps_791 : decode cL_keeps 791 = .ok (.iconst 0, 1) := by decide +kernel
theorem dL_keeps_792 : decode cL_keeps 792 = .ok (.ireturn, 1) := by decide +kernel
theorem dL_keeps_793 : decode cL_keeps 793 = .ok (.aload 9, 2) := by decide +kernel
theorem dL_keeps_795 : decode cL_keeps 795 = .ok (.aload 11, 2) := by decide +kernel
theorem dL_keeps_797 : decode cL_keeps 797 = .ok (.iconst 3, 1) := by decide +kernel
theorem dL_keeps_798 : decode cL_keeps 798 = .ok (.iaload, 1) := by decide +kernel
theorem dL_keeps_799 : decode cL_keeps 799 = .ok (.iload 14, 2) := by decide +kernel
theorem dL_keeps_801 : decode cL_keeps 801 = .ok (.sipush 128, 3) := by decide +kernel
theorem dL_keeps_804 : decode cL_keeps 804 = .ok (.aload 11, 2) := by decide +kernel
theorem dL_keeps_806 : decode cL_keeps 806 = .ok (.iconst 0, 1) := by decide +kernel
theorem dL_keeps_807 : decode cL_keeps 807 = .ok (.iaload, 1) := by decide +kernel
theorem dL_keeps_808 : decode cL_keeps 808 = .ok (.imul, 1) := by decide +kernel
theorem dL_keeps_809 : decode cL_keeps 809 = .ok (.iadd, 1) := by decide +kernel
theorem dL_keeps_810 : decode cL_keeps 810 = .ok (.iastore, 1) := by decide +kernel
theorem dL_keeps_811 : decode cL_keeps 811 = .ok (.aload 10, 2) := by decide +kernel
theorem dL_keeps_813 : decode cL_keeps 813 = .ok (.aload 11, 2) := by decide +kernel
theorem dL_keeps_815 : decode cL_keeps 815 = .ok (.iconst 3, 1) := by decide +kernel
theorem dL_keeps_816 : decode cL_keeps 816 = .ok (.iaload, 1) := by decide +kernel
theorem dL_keeps_817 : decode cL_keeps 817 = .ok (.aload 4, 2) := by decide +kernel
theorem dL_keeps_819 : decode cL_keeps 819 = .ok (.aload 5, 2) := by decide +kernel
theorem dL_keeps_821 : decode cL_keeps 821 = .ok (.aload 6, 2) := by decide +kernel
theorem dL_keeps_823 : decode cL_keeps 823 = .ok (.aload 8, 2) := by decide +kernel
theorem dL_keeps_825 : decode cL_keeps 825 = .ok (.aload 11, 2) := by decide +kernel
theorem dL_keeps_827 : decode cL_keeps 827 = .ok (.iload 14, 2) := by decide +kernel
theorem dL_keeps_829 : decode cL_keeps 829 = .ok (.invokestatic 96, 3) := by decide +kernel
theorem dL_keeps_832 : decode cL_keeps 832 = .ok (.iastore, 1) := by decide +kernel
theorem dL_keeps_833 : decode cL_keeps 833 = .ok (.aload 11, 2) := by decide +kernel
theorem dL_keeps_835 : decode cL_keeps 835 = .ok (.iconst 3, 1) := by decide +kernel
theorem dL_keeps_836 : decode cL_keeps 836 = .ok (.dup2, 1) := by decide +kernel
theorem dL_keeps_837 : decode cL_keeps 837 = .ok (.iaload, 1) := by decide +kernel
theorem dL_keeps_838 : decode cL_keeps 838 = .ok (.iconst 1, 1) := by decide +kernel
theorem dL_keeps_839 : decode cL_keeps 839 = .ok (.iadd, 1) := by decide +kernel
theorem dL_keeps_840 : decode cL_keeps 840 = .ok (.iastore, 1) := by decide +kernel
theorem dL_keeps_841 : decode cL_keeps 841 = .ok (.aload_n 0, 1) := by decide +kernel
theorem dL_keeps_842 : decode cL_keeps 842 = .ok (.iload 12, 2) := by decide +kernel
theorem dL_keeps_844 : decode cL_keeps 844 = .ok (.iload 13, 2) := by decide +kernel
theorem dL_keeps_846 : decode cL_keeps 846 = .ok (.invokestatic 91, 3) := by decide +kernel
theorem dL_keeps_849 : decode cL_keeps 849 = .ok (.aload 10, 2) := by decide +kernel
theorem dL_keeps_851 : decode cL_keeps 851 = .ok (.aload 11, 2) := by decide +kernel
theorem dL_keeps_853 : decode cL_keeps 853 = .ok (.iconst 3, 1) := by decide +kernel
theorem dL_keeps_854 : decode cL_keeps 854 = .ok (.iaload, 1) := by decide +kernel
theorem dL_keeps_855 : decode cL_keeps 855 = .ok (.iconst 1, 1) := by decide +kernel
theorem dL_keeps_856 : decode cL_keeps 856 = .ok (.isub, 1) := by decide +kernel
theorem dL_keeps_857 : decode cL_keeps 857 = .ok (.iaload, 1) := by decide +kernel
theorem dL_keeps_858 : decode cL_keeps 858 = .ok (.if_icmp .ne 7, 3) := by decide +kernel
theorem dL_keeps_861 : decode cL_keeps 861 = .ok (.iconst 1, 1) := by decide +kernel
theorem dL_keeps_862 : decode cL_keeps 862 = .ok (.goto 4, 3) := by decide +kernel
theorem dL_keeps_865 : decode cL_keeps 865 = .ok (.iconst 0, 1) := by decide +kernel
theorem dL_keeps_866 : decode cL_keeps 866 = .ok (.ireturn, 1) := by decide +kernel
set_option maxRecDepth 20000 in
theorem ggL_areTiles_L_window : GoodIn wsL_areTiles wsL_window := goodIn_ca (goodIn_r _ [4, 5, 6, 7, 8, 9, 10, 11, 12, 13, 14, 15, 16, 17, 18, 19, 20, 21, 22, 23, 24, 25, 44, 45, 46, 47, 48, 49, 50, 51, 52, 53, 54, 55, 56, 57, 58, 59] (by decide +kernel) (by decide +kernel)) (goodIn_sub (fun _ h => List.mem_cons_of_mem _ (List.mem_append_right _ h)) (by decide +kernel))
set_option maxRecDepth 20000 in
theorem gL_areTiles_L_window : GoodIn wsL_areTiles (va_wsS RL 100 yL_window wsL_window) := goodIn_app (goodIn_of _ (by decide +kernel)) ggL_areTiles_L_window
set_option maxRecDepth 20000 in
theorem ggL_areTiles_L_greatestTile : GoodIn wsL_areTiles wsL_greatestTile := goodIn_ca (goodIn_r _ [28, 5, 29, 30, 31, 9, 32, 11, 12, 13, 33, 34, 35, 36, 14, 15, 16, 17, 18, 19, 20, 21, 22, 23, 24, 25, 44, 45, 46, 47, 48, 49, 50, 51, 52, 53, 54, 55, 56, 57, 58, 59] (by decide +kernel) (by decide +kernel)) (goodIn_sub (fun _ h => List.mem_cons_of_mem _ (List.mem_append_right _ h)) (by decide +kernel))
set_option maxRecDepth 20000 in
theorem gL_areTiles_L_greatestTile : GoodIn wsL_areTiles (va_wsS RL 102 yL_greatestTile wsL_greatestTile) := goodIn_app (goodIn_of _ (by decide +kernel)) ggL_areTiles_L_greatestTile
set_option maxRecDepth 20000 in
theorem ggL_areTiles_L_tiles : GoodIn wsL_areTiles wsL_tiles := goodIn_ca (goodIn_r _ [39, 5, 40, 41, 42, 9, 43, 11, 12, 14, 15, 16, 17, 18, 19, 20, 21, 22, 23, 24, 25, 44, 45, 46, 47, 48, 49, 50, 51, 52, 53, 54, 55, 56, 57, 58, 59] (by decide +kernel) (by decide +kernel)) (goodIn_sub (fun _ h => List.mem_cons_of_mem _ (List.mem_append_right _ h)) (by decide +kernel))
set_option maxRecDepth 20000 in
theorem gL_areTiles_L_tiles : GoodIn wsL_areTiles (va_wsS RL 105 yL_tiles wsL_tiles) := goodIn_app (goodIn_of _ (by decide +kernel)) ggL_areTiles_L_tiles
theorem dL_areTiles_0 : decode cL_areTiles 0 = .ok (.iconst 0, 1) := by decide +kernel
theorem dL_areTiles_1 : decode cL_areTiles 1 = .ok (.istore 10, 2) := by decide +kernel
theorem dL_areTiles_3 : decode cL_areTiles 3 = .ok (.iconst 0, 1) := by decide +kernel
theorem dL_areTiles_4 : decode cL_areTiles 4 = .ok (.istore 11, 2) := by decide +kernel
theorem dL_areTiles_6 : decode cL_areTiles 6 = .ok (.iconst 0, 1) := by decide +kernel
theorem dL_areTiles_7 : decode cL_areTiles 7 = .ok (.istore 12, 2) := by decide +kernel
theorem dL_areTiles_9 : decode cL_areTiles 9 = .ok (.iconst 0, 1) := by decide +kernel
theorem dL_areTiles_10 : decode cL_areTiles 10 = .ok (.istore 13, 2) := by decide +kernel
theorem dL_areTiles_12 : decode cL_areTiles 12 = .ok (.iload 13, 2) := by decide +kernel
theorem dL_areTiles_14 : decode cL_areTiles 14 = .ok (.aload 9, 2) := by decide +kernel
theorem dL_areTiles_16 : decode cL_areTiles 16 = .ok (.iconst 1, 1) := by decide +kernel
theorem dL_areTiles_17 : decode cL_areTiles 17 = .ok (.iaload, 1) := by decide +kernel
theorem dL_areTiles_18 : decode cL_areTiles 18 = .ok (.if_icmp .ge 175, 3) := by decide +kernel
theorem dL_areTiles_21 : decode cL_areTiles 21 = .ok (.aload 6, 2) := by decide +kernel
theorem dL_areTiles_23 : decode cL_areTiles 23 = .ok (.iload 13, 2) := by decide +kernel
theorem dL_areTiles_25 : decode cL_areTiles 25 = .ok (.iaload, 1) := by decide +kernel
theorem dL_areTiles_26 : decode cL_areTiles 26 = .ok (.iload_n 1, 1) := by decide +kernel
theorem dL_areTiles_27 : decode cL_areTiles 27 = .ok (.bipush 8, 2) := by decide +kernel
theorem dL_areTiles_29 : decode cL_areTiles 29 = .ok (.iload_n 2, 1) := by decide +kernel
theorem dL_areTiles_30 : decode cL_areTiles 30 = .ok (.imul, 1) := by decide +kernel
theorem dL_areTiles_31 : decode cL_areTiles 31 = .ok (.iadd, 1) := by decide +kernel
theorem dL_areTiles_32 : decode cL_areTiles 32 = .ok (.if_icmp .eq 6, 3) := by decide +kernel
theorem dL_areTiles_35 : decode cL_areTiles 35 = .ok (.goto 152, 3) := by decide +kernel
theorem dL_areTiles_38 : decode cL_areTiles 38 = .ok (.iload 10, 2) := by decide +kernel
theorem dL_areTiles_40 : decode cL_areTiles 40 = .ok (.aload 7, 2) := by decide +kernel
theorem dL_areTiles_42 : decode cL_areTiles 42 = .ok (.iload 13, 2) := by decide +kernel
theorem dL_areTiles_44 : decode cL_areTiles 44 = .ok (.iaload, 1) := by decide +kernel
theorem dL_areTiles_45 : decode cL_areTiles 45 = .ok (.iload 4, 2) := by decide +kernel
theorem dL_areTiles_47 : decode cL_areTiles 47 = .ok (.if_icmp .lt 21, 3) := by decide +kernel
theorem dL_areTiles_50 : decode cL_areTiles 50 = .ok (.aload 7, 2) := by decide +kernel
theorem dL_areTiles_52 : decode cL_areTiles 52 = .ok (.iload 13, 2) := by decide +kernel
theorem dL_areTiles_54 : decode cL_areTiles 54 = .ok (.iaload, 1) := by decide +kernel
theorem dL_areTiles_55 : decode cL_areTiles 55 = .ok (.iload 5, 2) := by decide +kernel
theorem dL_areTiles_57 : decode cL_areTiles 57 = .ok (.if_icmp .gt 11, 3) := by decide +kernel
theorem dL_areTiles_60 : decode cL_areTiles 60 = .ok (.aload 8, 2) := by decide +kernel
theorem dL_areTiles_62 : decode cL_areTiles 62 = .ok (.iload 13, 2) := by decide +kernel
theorem dL_areTiles_64 : decode cL_areTiles 64 = .ok (.iaload, 1) := by decide +kernel
theorem dL_areTiles_65 : decode cL_areTiles 65 = .ok (.goto 4, 3) := by decide +kernel
theorem dL_areTiles_68 : decode cL_areTiles 68 = .ok (.iconst 0, 1) := by decide +kernel
theorem dL_areTiles_69 : decode cL_areTiles 69 = .ok (.iadd, 1) := by decide +kernel
theorem dL_areTiles_70 : decode cL_areTiles 70 = .ok (.istore 10, 2) := by decide +kernel
theorem dL_areTiles_72 : decode cL_areTiles 72 = .ok (.iconst 0, 1) := by decide +kernel
theorem dL_areTiles_73 : decode cL_areTiles 73 = .ok (.istore 14, 2) := by decide +kernel
theorem dL_areTiles_75 : decode cL_areTiles 75 = .ok (.iconst 1, 1) := by decide +kernel
theorem dL_areTiles_76 : decode cL_areTiles 76 = .ok (.istore 15, 2) := by decide +kernel
theorem dL_areTiles_78 : decode cL_areTiles 78 = .ok (.iconst 0, 1) := by decide +kernel
theorem dL_areTiles_79 : decode cL_areTiles 79 = .ok (.istore 16, 2) := by decide +kernel
theorem dL_areTiles_81 : decode cL_areTiles 81 = .ok (.iload 16, 2) := by decide +kernel
theorem dL_areTiles_83 : decode cL_areTiles 83 = .ok (.aload 9, 2) := by decide +kernel
theorem dL_areTiles_85 : decode cL_areTiles 85 = .ok (.iconst 1, 1) := by decide +kernel
theorem dL_areTiles_86 : decode cL_areTiles 86 = .ok (.iaload, 1) := by decide +kernel
theorem dL_areTiles_87 : decode cL_areTiles 87 = .ok (.if_icmp .ge 69, 3) := by decide +kernel
theorem dL_areTiles_90 : decode cL_areTiles 90 = .ok (.aload 6, 2) := by decide +kernel
theorem dL_areTiles_92 : decode cL_areTiles 92 = .ok (.iload 16, 2) := by decide +kernel
theorem dL_areTiles_94 : decode cL_areTiles 94 = .ok (.iaload, 1) := by decide +kernel
theorem dL_areTiles_95 : decode cL_areTiles 95 = .ok (.aload 6, 2) := by decide +kernel
theorem dL_areTiles_97 : decode cL_areTiles 97 = .ok (.iload 13, 2) := by decide +kernel
theorem dL_areTiles_99 : decode cL_areTiles 99 = .ok (.iaload, 1) := by decide +kernel
theorem dL_areTiles_100 : decode cL_areTiles 100 = .ok (.if_icmp .ne 50, 3) := by decide +kernel
theorem dL_areTiles_103 : decode cL_areTiles 103 = .ok (.aload 7, 2) := by decide +kernel
theorem dL_areTiles_105 : decode cL_areTiles 105 = .ok (.iload 16, 2) := by decide +kernel
theorem dL_areTiles_107 : decode cL_areTiles 107 = .ok (.iaload, 1) := by decide +kernel
theorem dL_areTiles_108 : decode cL_areTiles 108 = .ok (.iload_n 3, 1) := by decide +kernel
theorem dL_areTiles_109 : decode cL_areTiles 109 = .ok (.idiv, 1) := by decide +kernel
theorem dL_areTiles_110 : decode cL_areTiles 110 = .ok (.aload 7, 2) := by decide +kernel
theorem dL_areTiles_112 : decode cL_areTiles 112 = .ok (.iload 13, 2) := by decide +kernel
theorem dL_areTiles_114 : decode cL_areTiles 114 = .ok (.iaload, 1) := by decide +kernel
theorem dL_areTiles_115 : decode cL_areTiles 115 = .ok (.iload_n 3, 1) := by decide +kernel
theorem dL_areTiles_116 : decode cL_areTiles 116 = .ok (.idiv, 1) := by decide +kernel
theorem dL_areTiles_117 : decode cL_areTiles 117 = .ok (.if_icmp .eq 6, 3) := by decide +kernel
theorem dL_areTiles_120 : decode cL_areTiles 120 = .ok (.goto 30, 3) := by decide +kernel
theorem dL_areTiles_123 : decode cL_areTiles 123 = .ok (.iload 14, 2) := by decide +kernel
theorem dL_areTiles_125 : decode cL_areTiles 125 = .ok (.aload 8, 2) := by decide +kernel
theorem dL_areTiles_127 : decode cL_areTiles 127 = .ok (.iload 16, 2) := by decide +kernel
theorem dL_areTiles_129 : decode cL_areTiles 129 = .ok (.iaload, 1) := by decide +kernel
theorem dL_areTiles_130 : decode cL_areTiles 130 = .ok (.iadd, 1) := by decide +kernel
theorem dL_areTiles_131 : decode cL_areTiles 131 = .ok (.istore 14, 2) := by decide +kernel
theorem dL_areTiles_133 : decode cL_areTiles 133 = .ok (.iload 15, 2) := by decide +kernel
theorem dL_areTiles_135 : decode cL_areTiles 135 = .ok (.iload 16, 2) := by decide +kernel
theorem dL_areTiles_137 : decode cL_areTiles 137 = .ok (.iload 13, 2) := by decide +kernel
theorem dL_areTiles_139 : decode cL_areTiles 139 = .ok (.if_icmp .gt 7, 3) := by decide +kernel
theorem dL_areTiles_142 : decode cL_areTiles 142 = .ok (.iconst 1, 1) := by decide +kernel
theorem dL_areTiles_143 : decode cL_areTiles 143 = .ok (.goto 4, 3) := by decide +kernel
theorem dL_areTiles_146 : decode cL_areTiles 146 = .ok (.iconst 0, 1) := by decide +kernel
theorem dL_areTiles_147 : decode cL_areTiles 147 = .ok (.iand, 1) := by decide +kernel
theorem dL_areTiles_148 : decode cL_areTiles 148 = .ok (.istore 15, 2) := by decide +kernel
theorem dL_areTiles_150 : decode cL_areTiles 150 = .ok (.iinc 16 1, 3) := by decide +kernel
theorem dL_areTiles_153 : decode cL_areTiles 153 = .ok (.goto (-72), 3) := by decide +kernel
theorem dL_areTiles_156 : decode cL_areTiles 156 = .ok (.iload 14, 2) := by decide +kernel
theorem dL_areTiles_158 : decode cL_areTiles 158 = .ok (.iload 11, 2) := by decide +kernel
theorem dL_areTiles_160 : decode cL_areTiles 160 = .ok (.if_icmp .le 8, 3) := by decide +kernel
theorem dL_areTiles_163 : decode cL_areTiles 163 = .ok (.iload 14, 2) := by decide +kernel
theorem dL_areTiles_165 : decode cL_areTiles 165 = .ok (.goto 5, 3) := by decide +kernel
theorem dL_areTiles_168 : decode cL_areTiles 168 = .ok (.iload 11, 2) := by decide +kernel
theorem dL_areTiles_170 : decode cL_areTiles 170 = .ok (.istore 11, 2) := by decide +kernel
theorem dL_areTiles_172 : decode cL_areTiles 172 = .ok (.iload 12, 2) := by decide +kernel
theorem dL_areTiles_174 : decode cL_areTiles 174 = .ok (.iload 15, 2) := by decide +kernel
theorem dL_areTiles_176 : decode cL_areTiles 176 = .ok (.ifCond .eq 7, 3) := by decide +kernel
theorem dL_areTiles_179 : decode cL_areTiles 179 = .ok (.iconst 1, 1) := by decide +kernel
theorem dL_areTiles_180 : decode cL_areTiles 180 = .ok (.goto 4, 3) := by decide +kernel
theorem dL_areTiles_183 : decode cL_areTiles 183 = .ok (.iconst 0, 1) := by decide +kernel
theorem dL_areTiles_184 : decode cL_areTiles 184 = .ok (.iadd, 1) := by decide +kernel
theorem dL_areTiles_185 : decode cL_areTiles 185 = .ok (.istore 12, 2) := by decide +kernel
theorem dL_areTiles_187 : decode cL_areTiles 187 = .ok (.iinc 13 1, 3) := by decide +kernel
theorem dL_areTiles_190 : decode cL_areTiles 190 = .ok (.goto (-178), 3) := by decide +kernel
theorem dL_areTiles_193 : decode cL_areTiles 193 = .ok (.aload_n 0, 1) := by decide +kernel
theorem dL_areTiles_194 : decode cL_areTiles 194 = .ok (.iload_n 1, 1) := by decide +kernel
theorem dL_areTiles_195 : decode cL_areTiles 195 = .ok (.iload_n 2, 1) := by decide +kernel
theorem dL_areTiles_196 : decode cL_areTiles 196 = .ok (.iload 4, 2) := by decide +kernel
theorem dL_areTiles_198 : decode cL_areTiles 198 = .ok (.iload 5, 2) := by decide +kernel
theorem dL_areTiles_200 : decode cL_areTiles 200 = .ok (.invokestatic 100, 3) := by decide +kernel
theorem dL_areTiles_203 : decode cL_areTiles 203 = .ok (.iload 10, 2) := by decide +kernel
theorem dL_areTiles_205 : decode cL_areTiles 205 = .ok (.if_icmp .ne 31, 3) := by decide +kernel
theorem dL_areTiles_208 : decode cL_areTiles 208 = .ok (.aload_n 0, 1) := by decide +kernel
theorem dL_areTiles_209 : decode cL_areTiles 209 = .ok (.iload_n 1, 1) := by decide +kernel
theorem dL_areTiles_210 : decode cL_areTiles 210 = .ok (.iload_n 2, 1) := by decide +kernel
theorem dL_areTiles_211 : decode cL_areTiles 211 = .ok (.iload_n 3, 1) := by decide +kernel
theorem dL_areTiles_212 : decode cL_areTiles 212 = .ok (.invokestatic 102, 3) := by decide +kernel
theorem dL_areTiles_215 : decode cL_areTiles 215 = .ok (.iload 11, 2) := by decide +kernel
theorem dL_areTiles_217 : decode cL_areTiles 217 = .ok (.if_icmp .ne 19, 3) := by decide +kernel
theorem dL_areTiles_220 : decode cL_areTiles 220 = .ok (.aload_n 0, 1) := by decide +kernel
theorem dL_areTiles_221 : decode cL_areTiles 221 = .ok (.iload_n 1, 1) := by decide +kernel
theorem dL_areTiles_222 : decode cL_areTiles 222 = .ok (.iload_n 2, 1) := by decide +kernel
theorem dL_areTiles_223 : decode cL_areTiles 223 = .ok (.iload_n 3, 1) := by decide +kernel
theorem dL_areTiles_224 : decode cL_areTiles 224 = .ok (.invokestatic 105, 3) := by decide +kernel
theorem dL_areTiles_227 : decode cL_areTiles 227 = .ok (.iload 12, 2) := by decide +kernel
theorem dL_areTiles_229 : decode cL_areTiles 229 = .ok (.if_icmp .ne 7, 3) := by decide +kernel
theorem dL_areTiles_232 : decode cL_areTiles 232 = .ok (.iconst 1, 1) := by decide +kernel
theorem dL_areTiles_233 : decode cL_areTiles 233 = .ok (.goto 4, 3) := by decide +kernel
theorem dL_areTiles_236 : decode cL_areTiles 236 = .ok (.iconst 0, 1) := by decide +kernel
theorem dL_areTiles_237 : decode cL_areTiles 237 = .ok (.ireturn, 1) := by decide +kernel
set_option maxRecDepth 20000 in
theorem ggL_isTold_L_value : GoodIn wsL_isTold wsL_value := goodIn_ca (goodIn_r _ [4, 5, 6, 7, 8, 9, 10, 11, 12, 13, 14, 15, 16, 17, 18, 19, 20, 21, 22, 23, 178, 179, 180, 181, 182, 183, 184, 185, 186, 187, 188, 189, 190, 191, 192, 193] (by decide +kernel) (by decide +kernel)) (goodIn_sub (fun _ h => List.mem_cons_of_mem _ (List.mem_append_left _ (List.mem_append_right _ h))) (by decide +kernel))
set_option maxRecDepth 20000 in
theorem gL_isTold_L_value : GoodIn wsL_isTold (va_wsS RL 107 yL_value wsL_value) := goodIn_app (goodIn_of _ (by decide +kernel)) ggL_isTold_L_value
set_option maxRecDepth 20000 in
theorem ggL_isTold_L_late : GoodIn wsL_isTold wsL_late := goodIn_ca (goodIn_r _ [26, 5, 27, 28, 29, 9, 30, 31, 32, 12, 13, 14, 15, 16, 17, 18, 19, 20, 21, 22, 23, 178, 179, 180, 181, 182, 183, 184, 185, 186, 187, 188, 189, 190, 191, 192, 193] (by decide +kernel) (by decide +kernel)) (goodIn_sub (fun _ h => List.mem_cons_of_mem _ (List.mem_append_left _ (List.mem_append_right _ h))) (by decide +kernel))
set_option maxRecDepth 20000 in
theorem gL_isTold_L_late : GoodIn wsL_isTold (va_wsS RL 109 yL_late wsL_late) := goodIn_app (goodIn_of _ (by decide +kernel)) ggL_isTold_L_late
set_option maxRecDepth 20000 in
theorem ggL_isTold_L_find : GoodIn wsL_isTold wsL_find := goodIn_r _ [35] (by decide +kernel) (by decide +kernel)
set_option maxRecDepth 20000 in
theorem gL_isTold_L_find : GoodIn wsL_isTold (va_wsS RL 66 yL_find wsL_find) := goodIn_app (goodIn_of _ (by decide +kernel)) ggL_isTold_L_find
set_option maxRecDepth 20000 in
theorem ggL_isTold_L_served : GoodIn wsL_isTold wsL_served := goodIn_ca (goodIn_r _ [38, 5, 39, 40, 41, 9, 42, 43, 44, 45, 46, 47, 16, 17, 48, 49, 194, 195, 196, 197, 185, 186, 187, 188, 189, 190, 191, 192, 193] (by decide +kernel) (by decide +kernel)) (goodIn_sub (fun _ h => List.mem_cons_of_mem _ (List.mem_append_left _ (List.mem_append_right _ h))) (by decide +kernel))
set_option maxRecDepth 20000 in
theorem gL_isTold_L_served : GoodIn wsL_isTold (va_wsS RL 111 yL_served wsL_served) := goodIn_app (goodIn_of _ (by decide +kernel)) ggL_isTold_L_served
set_option maxRecDepth 20000 in
theorem ggL_isTold_L_isSound : GoodIn wsL_isTold wsL_isSound := goodIn_ca (goodIn_r _ [52, 5, 53, 54, 55, 9, 56, 43, 57, 58, 59, 44, 45, 46, 47, 16, 17, 48, 49, 60, 61, 62, 63, 64, 32, 31, 65, 66, 67, 68, 69, 70, 71, 72, 73, 74, 75, 194, 195, 196, 197, 185, 186, 187, 188, 189, 190, 191, 192, 193, 178, 179, 180, 181, 182, 183, 184] (by decide +kernel) (by decide +kernel)) (goodIn_sub (fun _ h => List.mem_cons_of_mem _ (List.mem_append_left _ (List.mem_append_right _ h))) (by decide +kernel))
set_option maxRecDepth 20000 in
theorem gL_isTold_L_isSound : GoodIn wsL_isTold (va_wsS RL 113 yL_isSound wsL_isSound) := goodIn_app (goodIn_of _ (by decide +kernel)) ggL_isTold_L_isSound
set_option maxRecDepth 20000 in
theorem ggL_isTold_L_copied : GoodIn wsL_isTold wsL_copied := goodIn_r _ [78, 33, 34, 3, 35] (by decide +kernel) (by decide +kernel)
set_option maxRecDepth 20000 in
theorem gL_isTold_L_copied : GoodIn wsL_isTold (va_wsS RL 96 yL_copied wsL_copied) := goodIn_app (goodIn_of _ (by decide +kernel)) ggL_isTold_L_copied
set_option maxRecDepth 20000 in
theorem ggL_isTold_L_online : GoodIn wsL_isTold wsL_online := goodIn_ca (goodIn_r _ [81, 82, 83, 84, 85, 9, 86, 87, 88, 89, 90, 91, 92, 93, 94, 95, 96, 97, 98, 99, 100, 66, 67, 68, 69, 70, 71, 72, 32, 73, 74, 75, 185, 186, 187, 188, 189, 190, 191, 192, 193, 178, 179, 180, 181, 182, 183, 184] (by decide +kernel) (by decide +kernel)) (goodIn_sub (fun _ h => List.mem_cons_of_mem _ (List.mem_append_right _ h)) (by decide +kernel))
set_option maxRecDepth 20000 in
theorem gL_isTold_L_online : GoodIn wsL_isTold (va_wsS RL 115 yL_online wsL_online) := goodIn_app (goodIn_of _ (by decide +kernel)) ggL_isTold_L_online
set_option maxRecDepth 20000 in
theorem ggL_isTold_L_low : GoodIn wsL_isTold wsL_low := goodIn_r _ [103] (by decide +kernel) (by decide +kernel)
set_option maxRecDepth 20000 in
theorem gL_isTold_L_low : GoodIn wsL_isTold (va_wsS RL 72 yL_low wsL_low) := goodIn_app (goodIn_of _ (by decide +kernel)) ggL_isTold_L_low
set_option maxRecDepth 20000 in
theorem ggL_isTold_L_join : GoodIn wsL_isTold wsL_join := goodIn_ca (goodIn_r _ [106, 82, 107, 108, 109, 9, 110, 100, 87, 88, 89, 90, 91, 92, 93, 94, 60, 61, 62, 63, 64, 32, 31, 65, 66, 67, 68, 69, 70, 71, 72, 73, 74, 75, 185, 186, 187, 188, 189, 190, 191, 192, 193, 178, 179, 180, 181, 182, 183, 184] (by decide +kernel) (by decide +kernel)) (goodIn_sub (fun _ h => List.mem_cons_of_mem _ (List.mem_append_right _ h)) (by decide +kernel))
set_option maxRecDepth 20000 in
theorem gL_isTold_L_join : GoodIn wsL_isTold (va_wsS RL 117 yL_join wsL_join) := goodIn_app (goodIn_of _ (by decide +kernel)) ggL_isTold_L_join
set_option maxRecDepth 20000 in
theorem ggL_isTold_L_revised : GoodIn wsL_isTold wsL_revised := goodIn_ca (goodIn_r _ [113, 82, 114, 115, 116, 9, 117, 100, 64, 32, 73, 118, 119, 120, 121, 31, 65, 87, 88, 89, 90, 91, 92, 93, 94, 66, 67, 68, 122, 123, 124, 185, 186, 187, 188, 189, 190, 191, 192, 193, 178, 179, 180, 181, 182, 183, 184] (by decide +kernel) (by decide +kernel)) (goodIn_sub (fun _ h => List.mem_cons_of_mem _ (List.mem_append_right _ h)) (by decide +kernel))
set_option maxRecDepth 20000 in
theorem gL_isTold_L_revised : GoodIn wsL_isTold (va_wsS RL 119 yL_revised wsL_revised) := goodIn_app (goodIn_of _ (by decide +kernel)) ggL_isTold_L_revised
set_option maxRecDepth 20000 in
theorem ggL_isTold_L_areTiles : GoodIn wsL_isTold wsL_areTiles := goodIn_ca (goodIn_r _ [127, 128, 129, 3, 130, 82, 131, 132, 133, 9, 134, 64, 32, 11, 65, 87, 88, 89, 90, 91, 92, 93, 94, 66, 67, 68, 135, 136, 137, 138, 139, 140, 141, 142, 143, 120, 144, 145, 146, 147, 148, 149, 150, 151, 185, 186, 187, 188, 189, 190, 191, 192, 193, 178, 179, 180, 181, 182, 183, 184] (by decide +kernel) (by decide +kernel)) (goodIn_sub (fun _ h => List.mem_cons_of_mem _ (List.mem_append_right _ h)) (by decide +kernel))
set_option maxRecDepth 20000 in
theorem gL_isTold_L_areTiles : GoodIn wsL_isTold (va_wsS RL 121 yL_areTiles wsL_areTiles) := goodIn_app (goodIn_of _ (by decide +kernel)) ggL_isTold_L_areTiles
set_option maxRecDepth 20000 in
theorem ggL_isTold_X2_now : GoodIn wsL_isTold wsX2_now := goodIn_r _ [155, 100, 185, 186, 187, 188, 189, 190, 191, 192, 193] (by decide +kernel) (by decide +kernel)
set_option maxRecDepth 20000 in
theorem gL_isTold_X2_now : GoodIn wsL_isTold (wsV RL 125 RX2 yX2_now wsX2_now) := goodIn_app (goodIn_of _ (by decide +kernel)) ggL_isTold_X2_now
set_option maxRecDepth 20000 in
theorem ggL_isTold_X2_rows : GoodIn wsL_isTold wsX2_rows := goodIn_r _ [159, 22, 185, 186, 187, 188, 189, 190, 191, 192, 193] (by decide +kernel) (by decide +kernel)
set_option maxRecDepth 20000 in
theorem gL_isTold_X2_rows : GoodIn wsL_isTold (wsV RL 79 RX2 yX2_rows wsX2_rows) := goodIn_app (goodIn_of _ (by decide +kernel)) ggL_isTold_X2_rows
set_option maxRecDepth 20000 in
theorem ggL_isTold_X2_lag : GoodIn wsL_isTold wsX2_lag := goodIn_r _ [163, 22, 164, 185, 186, 187, 188, 189, 190, 191, 192, 193] (by decide +kernel) (by decide +kernel)
set_option maxRecDepth 20000 in
theorem gL_isTold_X2_lag : GoodIn wsL_isTold (wsV RL 128 RX2 yX2_lag wsX2_lag) := goodIn_app (goodIn_of _ (by decide +kernel)) ggL_isTold_X2_lag
set_option maxRecDepth 20000 in
theorem ggL_isTold_X2_skew : GoodIn wsL_isTold wsX2_skew := goodIn_r _ [168, 100, 95, 96, 97, 9, 98, 99, 66, 67, 68, 69, 70, 71, 72, 32, 73, 74, 75, 60, 61, 62, 63, 64, 31, 65, 185, 186, 187, 188, 189, 190, 191, 192, 193, 178, 179, 180, 181, 182, 183, 184] (by decide +kernel) (by decide +kernel)
set_option maxRecDepth 20000 in
theorem gL_isTold_X2_skew : GoodIn wsL_isTold (wsV RL 131 RX2 yX2_skew wsX2_skew) := goodIn_app (goodIn_of _ (by decide +kernel)) ggL_isTold_X2_skew
set_option maxRecDepth 20000 in
theorem ggL_isTold_X2_servings : GoodIn wsL_isTold wsX2_servings := goodIn_r _ [172, 48, 185, 186, 187, 188, 189, 190, 191, 192, 193] (by decide +kernel) (by decide +kernel)
set_option maxRecDepth 20000 in
theorem gL_isTold_X2_servings : GoodIn wsL_isTold (wsV RL 93 RX2 yX2_servings wsX2_servings) := goodIn_app (goodIn_of _ (by decide +kernel)) ggL_isTold_X2_servings
set_option maxRecDepth 20000 in
theorem ggL_isTold_X2_unsound : GoodIn wsL_isTold wsX2_unsound := goodIn_ca (goodIn_r _ [176, 48, 177, 54, 55, 9, 56, 43, 57, 58, 59, 44, 45, 46, 47, 16, 17, 49, 60, 61, 62, 63, 64, 32, 31, 65, 66, 67, 68, 69, 70, 71, 72, 73, 74, 75, 185, 186, 187, 188, 189, 190, 191, 192, 193, 194, 195, 196, 197, 178, 179, 180, 181, 182, 183, 184] (by decide +kernel) (by decide +kernel)) (goodIn_sub (fun _ h => List.mem_cons_of_mem _ (List.mem_append_left _ (List.mem_append_right _ h))) (by decide +kernel))
set_option maxRecDepth 20000 in
theorem gL_isTold_X2_unsound : GoodIn wsL_isTold (wsV RL 134 RX2 yX2_unsound wsX2_unsound) := goodIn_app (goodIn_of _ (by decide +kernel)) ggL_isTold_X2_unsound
set_option maxRecDepth 20000 in
theorem ggL_isTold_L_window : GoodIn wsL_isTold wsL_window := goodIn_ca (goodIn_r _ [130, 82, 131, 132, 133, 9, 134, 64, 32, 11, 65, 87, 88, 89, 90, 91, 92, 93, 94, 66, 67, 68, 185, 186, 187, 188, 189, 190, 191, 192, 193, 178, 179, 180, 181, 182, 183, 184] (by decide +kernel) (by decide +kernel)) (goodIn_sub (fun _ h => List.mem_cons_of_mem _ (List.mem_append_right _ h)) (by decide +kernel))
set_option maxRecDepth 20000 in
theorem gL_isTold_L_window : GoodIn wsL_isTold (va_wsS RL 100 yL_window wsL_window) := goodIn_app (goodIn_of _ (by decide +kernel)) ggL_isTold_L_window
set_option maxRecDepth 20000 in
theorem ggL_isTold_L_greatestTile : GoodIn wsL_isTold wsL_greatestTile := goodIn_ca (goodIn_r _ [137, 82, 138, 139, 140, 9, 141, 64, 32, 11, 142, 143, 120, 144, 65, 87, 88, 89, 90, 91, 92, 93, 94, 66, 67, 68, 185, 186, 187, 188, 189, 190, 191, 192, 193, 178, 179, 180, 181, 182, 183, 184] (by decide +kernel) (by decide +kernel)) (goodIn_sub (fun _ h => List.mem_cons_of_mem _ (List.mem_append_right _ h)) (by decide +kernel))
set_option maxRecDepth 20000 in
theorem gL_isTold_L_greatestTile : GoodIn wsL_isTold (va_wsS RL 102 yL_greatestTile wsL_greatestTile) := goodIn_app (goodIn_of _ (by decide +kernel)) ggL_isTold_L_greatestTile
set_option maxRecDepth 20000 in
theorem ggL_isTold_L_tiles : GoodIn wsL_isTold wsL_tiles := goodIn_ca (goodIn_r _ [147, 82, 148, 149, 150, 9, 151, 64, 32, 65, 87, 88, 89, 90, 91, 92, 93, 94, 66, 67, 68, 185, 186, 187, 188, 189, 190, 191, 192, 193, 178, 179, 180, 181, 182, 183, 184] (by decide +kernel) (by decide +kernel)) (goodIn_sub (fun _ h => List.mem_cons_of_mem _ (List.mem_append_right _ h)) (by decide +kernel))
set_option maxRecDepth 20000 in
theorem gL_isTold_L_tiles : GoodIn wsL_isTold (va_wsS RL 105 yL_tiles wsL_tiles) := goodIn_app (goodIn_of _ (by decide +kernel)) ggL_isTold_L_tiles
theorem dL_isTold_0 : decode cL_isTold 0 = .ok (.iconst 0, 1) := by decide +kernel
theorem dL_isTold_1 : decode cL_isTold 1 = .ok (.istore 11, 2) := by decide +kernel
theorem dL_isTold_3 : decode cL_isTold 3 = .ok (.iload 11, 2) := by decide +kernel
theorem dL_isTold_5 : decode cL_isTold 5 = .ok (.aload 10, 2) := by decide +kernel
theorem dL_isTold_7 : decode cL_isTold 7 = .ok (.iconst 1, 1) := by decide +kernel
theorem dL_isTold_8 : decode cL_isTold 8 = .ok (.iaload, 1) := by decide +kernel
theorem dL_isTold_9 : decode cL_isTold 9 = .ok (.if_icmp .ge 45, 3) := by decide +kernel
theorem dL_isTold_12 : decode cL_isTold 12 = .ok (.aload_n 0, 1) := by decide +kernel
theorem dL_isTold_13 : decode cL_isTold 13 = .ok (.iload 11, 2) := by decide +kernel
theorem dL_isTold_15 : decode cL_isTold 15 = .ok (.invokestatic 107, 3) := by decide +kernel
theorem dL_isTold_18 : decode cL_isTold 18 = .ok (.aload 6, 2) := by decide +kernel
theorem dL_isTold_20 : decode cL_isTold 20 = .ok (.iload 11, 2) := by decide +kernel
theorem dL_isTold_22 : decode cL_isTold 22 = .ok (.iaload, 1) := by decide +kernel
theorem dL_isTold_23 : decode cL_isTold 23 = .ok (.if_icmp .ne 23, 3) := by decide +kernel
theorem dL_isTold_26 : decode cL_isTold 26 = .ok (.aload_n 0, 1) := by decide +kernel
theorem dL_isTold_27 : decode cL_isTold 27 = .ok (.iload 11, 2) := by decide +kernel
theorem dL_isTold_29 : decode cL_isTold 29 = .ok (.invokestatic 109, 3) := by decide +kernel
theorem dL_isTold_32 : decode cL_isTold 32 = .ok (.aload 5, 2) := by decide +kernel
theorem dL_isTold_34 : decode cL_isTold 34 = .ok (.iload 11, 2) := by decide +kernel
theorem dL_isTold_36 : decode cL_isTold 36 = .ok (.iaload, 1) := by decide +kernel
theorem dL_isTold_37 : decode cL_isTold 37 = .ok (.aload 4, 2) := by decide +kernel
theorem dL_isTold_39 : decode cL_isTold 39 = .ok (.iload 11, 2) := by decide +kernel
theorem dL_isTold_41 : decode cL_isTold 41 = .ok (.iaload, 1) := by decide +kernel
theorem dL_isTold_42 : decode cL_isTold 42 = .ok (.isub, 1) := by decide +kernel
theorem dL_isTold_43 : decode cL_isTold 43 = .ok (.if_icmp .eq 5, 3) := by decide +kernel
theorem dL_isTold_46 : decode cL_isTold 46 = .ok (.iconst 0, 1) := by decide +kernel
theorem dL_isTold_47 : decode cL_isTold 47 = .ok (.ireturn, 1) := by decide +kernel
theorem dL_isTold_48 : decode cL_isTold 48 = .ok (.iinc 11 1, 3) := by decide +kernel
theorem dL_isTold_51 : decode cL_isTold 51 = .ok (.goto (-48), 3) := by decide +kernel
theorem dL_isTold_54 : decode cL_isTold 54 = .ok (.iconst 0, 1) := by decide +kernel
theorem dL_isTold_55 : decode cL_isTold 55 = .ok (.istore 11, 2) := by decide +kernel
theorem dL_isTold_57 : decode cL_isTold 57 = .ok (.iconst 0, 1) := by decide +kernel
theorem dL_isTold_58 : decode cL_isTold 58 = .ok (.istore 12, 2) := by decide +kernel
theorem dL_isTold_60 : decode cL_isTold 60 = .ok (.iload 12, 2) := by decide +kernel
theorem dL_isTold_62 : decode cL_isTold 62 = .ok (.aload 10, 2) := by decide +kernel
theorem dL_isTold_64 : decode cL_isTold 64 = .ok (.iconst 3, 1) := by decide +kernel
theorem dL_isTold_65 : decode cL_isTold 65 = .ok (.iaload, 1) := by decide +kernel
theorem dL_isTold_66 : decode cL_isTold 66 = .ok (.if_icmp .ge 112, 3) := by decide +kernel
theorem dL_isTold_69 : decode cL_isTold 69 = .ok (.aload 8, 2) := by decide +kernel
theorem dL_isTold_71 : decode cL_isTold 71 = .ok (.iload 12, 2) := by decide +kernel
theorem dL_isTold_73 : decode cL_isTold 73 = .ok (.iaload, 1) := by decide +kernel
theorem dL_isTold_74 : decode cL_isTold 74 = .ok (.sipush 128, 3) := by decide +kernel
theorem dL_isTold_77 : decode cL_isTold 77 = .ok (.idiv, 1) := by decide +kernel
theorem dL_isTold_78 : decode cL_isTold 78 = .ok (.istore 13, 2) := by decide +kernel
theorem dL_isTold_80 : decode cL_isTold 80 = .ok (.aload 9, 2) := by decide +kernel
theorem dL_isTold_82 : decode cL_isTold 82 = .ok (.iload 12, 2) := by decide +kernel
theorem dL_isTold_84 : decode cL_isTold 84 = .ok (.iaload, 1) := by decide +kernel
theorem dL_isTold_85 : decode cL_isTold 85 = .ok (.aload_n 3, 1) := by decide +kernel
theorem dL_isTold_86 : decode cL_isTold 86 = .ok (.aload 4, 2) := by decide +kernel
theorem dL_isTold_88 : decode cL_isTold 88 = .ok (.aload 5, 2) := by decide +kernel
theorem dL_isTold_90 : decode cL_isTold 90 = .ok (.aload 7, 2) := by decide +kernel
theorem dL_isTold_92 : decode cL_isTold 92 = .ok (.aload 8, 2) := by decide +kernel
theorem dL_isTold_94 : decode cL_isTold 94 = .ok (.iload 12, 2) := by decide +kernel
theorem dL_isTold_96 : decode cL_isTold 96 = .ok (.iaload, 1) := by decide +kernel
theorem dL_isTold_97 : decode cL_isTold 97 = .ok (.sipush 128, 3) := by decide +kernel
theorem dL_isTold_100 : decode cL_isTold 100 = .ok (.irem, 1) := by decide +kernel
theorem dL_isTold_101 : decode cL_isTold 101 = .ok (.iload 13, 2) := by decide +kernel
theorem dL_isTold_103 : decode cL_isTold 103 = .ok (.iload 13, 2) := by decide +kernel
theorem dL_isTold_105 : decode cL_isTold 105 = .ok (.aload 10, 2) := by decide +kernel
theorem dL_isTold_107 : decode cL_isTold 107 = .ok (.iconst 1, 1) := by decide +kernel
theorem dL_isTold_108 : decode cL_isTold 108 = .ok (.iaload, 1) := by decide +kernel
theorem dL_isTold_109 : decode cL_isTold 109 = .ok (.invokestatic 66, 3) := by decide +kernel
theorem dL_isTold_112 : decode cL_isTold 112 = .ok (.if_icmp .ne 7, 3) := by decide +kernel
theorem dL_isTold_115 : decode cL_isTold 115 = .ok (.iconst 1, 1) := by decide +kernel
theorem dL_isTold_116 : decode cL_isTold 116 = .ok (.goto 4, 3) := by decide +kernel
theorem dL_isTold_119 : decode cL_isTold 119 = .ok (.iconst 0, 1) := by decide +kernel
theorem dL_isTold_120 : decode cL_isTold 120 = .ok (.istore 14, 2) := by decide +kernel
theorem dL_isTold_122 : decode cL_isTold 122 = .ok (.iload 11, 2) := by decide +kernel
theorem dL_isTold_124 : decode cL_isTold 124 = .ok (.iload 14, 2) := by decide +kernel
theorem dL_isTold_126 : decode cL_isTold 126 = .ok (.ifCond .eq 7, 3) := by decide +kernel
theorem dL_isTold_129 : decode cL_isTold 129 = .ok (.iconst 0, 1) := by decide +kernel
theorem dL_isTold_130 : decode cL_isTold 130 = .ok (.goto 4, 3) := by decide +kernel
theorem dL_isTold_133 : decode cL_isTold 133 = .ok (.iconst 1, 1) := by decide +kernel
theorem dL_isTold_134 : decode cL_isTold 134 = .ok (.iadd, 1) := by decide +kernel
theorem dL_isTold_135 : decode cL_isTold 135 = .ok (.istore 11, 2) := by decide +kernel
theorem dL_isTold_137 : decode cL_isTold 137 = .ok (.aload_n 0, 1) := by decide +kernel
theorem dL_isTold_138 : decode cL_isTold 138 = .ok (.iload 12, 2) := by decide +kernel
theorem dL_isTold_140 : decode cL_isTold 140 = .ok (.invokestatic 111, 3) := by decide +kernel
theorem dL_isTold_143 : decode cL_isTold 143 = .ok (.aload 9, 2) := by decide +kernel
theorem dL_isTold_145 : decode cL_isTold 145 = .ok (.iload 12, 2) := by decide +kernel
theorem dL_isTold_147 : decode cL_isTold 147 = .ok (.iaload, 1) := by decide +kernel
theorem dL_isTold_148 : decode cL_isTold 148 = .ok (.if_icmp .ne 22, 3) := by decide +kernel
theorem dL_isTold_151 : decode cL_isTold 151 = .ok (.aload_n 0, 1) := by decide +kernel
theorem dL_isTold_152 : decode cL_isTold 152 = .ok (.iload 12, 2) := by decide +kernel
theorem dL_isTold_154 : decode cL_isTold 154 = .ok (.invokestatic 113, 3) := by decide +kernel
theorem dL_isTold_157 : decode cL_isTold 157 = .ok (.iload 14, 2) := by decide +kernel
theorem dL_isTold_159 : decode cL_isTold 159 = .ok (.ifCond .eq 7, 3) := by decide +kernel
theorem dL_isTold_162 : decode cL_isTold 162 = .ok (.iconst 1, 1) := by decide +kernel
theorem dL_isTold_163 : decode cL_isTold 163 = .ok (.goto 4, 3) := by decide +kernel
theorem dL_isTold_166 : decode cL_isTold 166 = .ok (.iconst 0, 1) := by decide +kernel
theorem dL_isTold_167 : decode cL_isTold 167 = .ok (.if_icmp .eq 5, 3) := by decide +kernel
theorem dL_isTold_170 : decode cL_isTold 170 = .ok (.iconst 0, 1) := by decide +kernel
theorem dL_isTold_171 : decode cL_isTold 171 = .ok (.ireturn, 1) := by decide +kernel
theorem dL_isTold_172 : decode cL_isTold 172 = .ok (.iinc 12 1, 3) := by decide +kernel
theorem dL_isTold_175 : decode cL_isTold 175 = .ok (.goto (-115), 3) := by decide +kernel
theorem dL_isTold_178 : decode cL_isTold 178 = .ok (.iconst 0, 1) := by decide +kernel
theorem dL_isTold_179 : decode cL_isTold 179 = .ok (.istore 12, 2) := by decide +kernel
theorem dL_isTold_181 : decode cL_isTold 181 = .ok (.iconst 0, 1) := by decide +kernel
theorem dL_isTold_182 : decode cL_isTold 182 = .ok (.istore 13, 2) := by decide +kernel
theorem dL_isTold_184 : decode cL_isTold 184 = .ok (.iload 13, 2) := by decide +kernel
theorem dL_isTold_186 : decode cL_isTold 186 = .ok (.bipush 60, 2) := by decide +kernel
theorem dL_isTold_188 : decode cL_isTold 188 = .ok (.if_icmp .ge 101, 3) := by decide +kernel
theorem dL_isTold_191 : decode cL_isTold 191 = .ok (.iload 13, 2) := by decide +kernel
theorem dL_isTold_193 : decode cL_isTold 193 = .ok (.bipush 6, 2) := by decide +kernel
theorem dL_isTold_195 : decode cL_isTold 195 = .ok (.irem, 1) := by decide +kernel
theorem dL_isTold_196 : decode cL_isTold 196 = .ok (.bipush 8, 2) := by decide +kernel
theorem dL_isTold_198 : decode cL_isTold 198 = .ok (.iload 13, 2) := by decide +kernel
theorem dL_isTold_200 : decode cL_isTold 200 = .ok (.bipush 6, 2) := by decide +kernel
theorem dL_isTold_202 : decode cL_isTold 202 = .ok (.idiv, 1) := by decide +kernel
theorem dL_isTold_203 : decode cL_isTold 203 = .ok (.imul, 1) := by decide +kernel
theorem dL_isTold_204 : decode cL_isTold 204 = .ok (.iadd, 1) := by decide +kernel
theorem dL_isTold_205 : decode cL_isTold 205 = .ok (.istore 14, 2) := by decide +kernel
theorem dL_isTold_207 : decode cL_isTold 207 = .ok (.aload_n 3, 1) := by decide +kernel
theorem dL_isTold_208 : decode cL_isTold 208 = .ok (.aload 4, 2) := by decide +kernel
theorem dL_isTold_210 : decode cL_isTold 210 = .ok (.aload 5, 2) := by decide +kernel
theorem dL_isTold_212 : decode cL_isTold 212 = .ok (.aload 7, 2) := by decide +kernel
theorem dL_isTold_214 : decode cL_isTold 214 = .ok (.aload 10, 2) := by decide +kernel
theorem dL_isTold_216 : decode cL_isTold 216 = .ok (.iload 14, 2) := by decide +kernel
theorem dL_isTold_218 : decode cL_isTold 218 = .ok (.invokestatic 96, 3) := by decide +kernel
theorem dL_isTold_221 : decode cL_isTold 221 = .ok (.istore 15, 2) := by decide +kernel
theorem dL_isTold_223 : decode cL_isTold 223 = .ok (.aload_n 0, 1) := by decide +kernel
theorem dL_isTold_224 : decode cL_isTold 224 = .ok (.iload 13, 2) := by decide +kernel
theorem dL_isTold_226 : decode cL_isTold 226 = .ok (.bipush 6, 2) := by decide +kernel
theorem dL_isTold_228 : decode cL_isTold 228 = .ok (.irem, 1) := by decide +kernel
theorem dL_isTold_229 : decode cL_isTold 229 = .ok (.iload 13, 2) := by decide +kernel
theorem dL_isTold_231 : decode cL_isTold 231 = .ok (.bipush 6, 2) := by decide +kernel
theorem dL_isTold_233 : decode cL_isTold 233 = .ok (.idiv, 1) := by decide +kernel
theorem dL_isTold_234 : decode cL_isTold 234 = .ok (.invokestatic 115, 3) := by decide +kernel
theorem dL_isTold_237 : decode cL_isTold 237 = .ok (.iload 15, 2) := by decide +kernel
theorem dL_isTold_239 : decode cL_isTold 239 = .ok (.if_icmp .eq 5, 3) := by decide +kernel
theorem dL_isTold_242 : decode cL_isTold 242 = .ok (.iconst 0, 1) := by decide +kernel
theorem dL_isTold_243 : decode cL_isTold 243 = .ok (.ireturn, 1) := by decide +kernel
theorem dL_isTold_244 : decode cL_isTold 244 = .ok (.iload 12, 2) := by decide +kernel
theorem dL_isTold_246 : decode cL_isTold 246 = .ok (.iload 15, 2) := by decide +kernel
theorem dL_isTold_248 : decode cL_isTold 248 = .ok (.aload_n 3, 1) := by decide +kernel
theorem dL_isTold_249 : decode cL_isTold 249 = .ok (.aload 4, 2) := by decide +kernel
theorem dL_isTold_251 : decode cL_isTold 251 = .ok (.aload 5, 2) := by decide +kernel
theorem dL_isTold_253 : decode cL_isTold 253 = .ok (.aload 7, 2) := by decide +kernel
theorem dL_isTold_255 : decode cL_isTold 255 = .ok (.iload 14, 2) := by decide +kernel
theorem dL_isTold_257 : decode cL_isTold 257 = .ok (.aload 10, 2) := by decide +kernel
theorem dL_isTold_259 : decode cL_isTold 259 = .ok (.iconst 0, 1) := by decide +kernel
theorem dL_isTold_260 : decode cL_isTold 260 = .ok (.iaload, 1) := by decide +kernel
theorem dL_isTold_261 : decode cL_isTold 261 = .ok (.aload 10, 2) := by decide +kernel
theorem dL_isTold_263 : decode cL_isTold 263 = .ok (.iconst 0, 1) := by decide +kernel
theorem dL_isTold_264 : decode cL_isTold 264 = .ok (.iaload, 1) := by decide +kernel
theorem dL_isTold_265 : decode cL_isTold 265 = .ok (.aload 10, 2) := by decide +kernel
theorem dL_isTold_267 : decode cL_isTold 267 = .ok (.iconst 1, 1) := by decide +kernel
theorem dL_isTold_268 : decode cL_isTold 268 = .ok (.iaload, 1) := by decide +kernel
theorem dL_isTold_269 : decode cL_isTold 269 = .ok (.invokestatic 66, 3) := by decide +kernel
theorem dL_isTold_272 : decode cL_isTold 272 = .ok (.if_icmp .ne 7, 3) := by decide +kernel
theorem dL_isTold_275 : decode cL_isTold 275 = .ok (.iconst 0, 1) := by decide +kernel
theorem dL_isTold_276 : decode cL_isTold 276 = .ok (.goto 4, 3) := by decide +kernel
theorem dL_isTold_279 : decode cL_isTold 279 = .ok (.iconst 1, 1) := by decide +kernel
theorem dL_isTold_280 : decode cL_isTold 280 = .ok (.iadd, 1) := by decide +kernel
theorem dL_isTold_281 : decode cL_isTold 281 = .ok (.istore 12, 2) := by decide +kernel
theorem dL_isTold_283 : decode cL_isTold 283 = .ok (.iinc 13 1, 3) := by decide +kernel
theorem dL_isTold_286 : decode cL_isTold 286 = .ok (.goto (-102), 3) := by decide +kernel
theorem dL_isTold_289 : decode cL_isTold 289 = .ok (.iconst 0, 1) := by decide +kernel
theorem dL_isTold_290 : decode cL_isTold 290 = .ok (.istore 13, 2) := by decide +kernel
theorem dL_isTold_292 : decode cL_isTold 292 = .ok (.iload 13, 2) := by decide +kernel
theorem dL_isTold_294 : decode cL_isTold 294 = .ok (.iconst 4, 1) := by decide +kernel
theorem dL_isTold_295 : decode cL_isTold 295 = .ok (.if_icmp .ge 323, 3) := by decide +kernel
theorem dL_isTold_298 : decode cL_isTold 298 = .ok (.iload_n 1, 1) := by decide +kernel
theorem dL_isTold_299 : decode cL_isTold 299 = .ok (.iload 13, 2) := by decide +kernel
theorem dL_isTold_301 : decode cL_isTold 301 = .ok (.ishr, 1) := by decide +kernel
theorem dL_isTold_302 : decode cL_isTold 302 = .ok (.iconst 2, 1) := by decide +kernel
theorem dL_isTold_303 : decode cL_isTold 303 = .ok (.invokestatic 72, 3) := by decide +kernel
theorem dL_isTold_306 : decode cL_isTold 306 = .ok (.istore 14, 2) := by decide +kernel
theorem dL_isTold_308 : decode cL_isTold 308 = .ok (.iload_n 1, 1) := by decide +kernel
theorem dL_isTold_309 : decode cL_isTold 309 = .ok (.iconst 2, 1) := by decide +kernel
theorem dL_isTold_310 : decode cL_isTold 310 = .ok (.iload 13, 2) := by decide +kernel
theorem dL_isTold_312 : decode cL_isTold 312 = .ok (.iadd, 1) := by decide +kernel
theorem dL_isTold_313 : decode cL_isTold 313 = .ok (.ishr, 1) := by decide +kernel
theorem dL_isTold_314 : decode cL_isTold 314 = .ok (.iconst 2, 1) := by decide +kernel
theorem dL_isTold_315 : decode cL_isTold 315 = .ok (.invokestatic 72, 3) := by decide +kernel
theorem dL_isTold_318 : decode cL_isTold 318 = .ok (.istore 15, 2) := by decide +kernel
theorem dL_isTold_320 : decode cL_isTold 320 = .ok (.iload 13, 2) := by decide +kernel
theorem dL_isTold_322 : decode cL_isTold 322 = .ok (.ifCond .ne 13, 3) := by decide +kernel
theorem dL_isTold_325 : decode cL_isTold 325 = .ok (.iload_n 2, 1) := by decide +kernel
theorem dL_isTold_326 : decode cL_isTold 326 = .ok (.sipush 10001, 3) := by decide +kernel
theorem dL_isTold_329 : decode cL_isTold 329 = .ok (.invokestatic 72, 3) := by decide +kernel
theorem dL_isTold_332 : decode cL_isTold 332 = .ok (.goto 16, 3) := by decide +kernel
theorem dL_isTold_335 : decode cL_isTold 335 = .ok (.iload_n 2, 1) := by decide +kernel
theorem dL_isTold_336 : decode cL_isTold 336 = .ok (.iload 13, 2) := by decide +kernel
theorem dL_isTold_338 : decode cL_isTold 338 = .ok (.ishr, 1) := by decide +kernel
theorem dL_isTold_339 : decode cL_isTold 339 = .ok (.aload 10, 2) := by decide +kernel
theorem dL_isTold_341 : decode cL_isTold 341 = .ok (.iconst 0, 1) := by decide +kernel
theorem dL_isTold_342 : decode cL_isTold 342 = .ok (.iaload, 1) := by decide +kernel
theorem dL_isTold_343 : decode cL_isTold 343 = .ok (.iconst 1, 1) := by decide +kernel
theorem dL_isTold_344 : decode cL_isTold 344 = .ok (.iadd, 1) := by decide +kernel
theorem dL_isTold_345 : decode cL_isTold 345 = .ok (.invokestatic 72, 3) := by decide +kernel
theorem dL_isTold_348 : decode cL_isTold 348 = .ok (.istore 16, 2) := by decide +kernel
theorem dL_isTold_350 : decode cL_isTold 350 = .ok (.iload_n 2, 1) := by decide +kernel
theorem dL_isTold_351 : decode cL_isTold 351 = .ok (.iconst 5, 1) := by decide +kernel
theorem dL_isTold_352 : decode cL_isTold 352 = .ok (.iload 13, 2) := by decide +kernel
theorem dL_isTold_354 : decode cL_isTold 354 = .ok (.iadd, 1) := by decide +kernel
theorem dL_isTold_355 : decode cL_isTold 355 = .ok (.ishr, 1) := by decide +kernel
theorem dL_isTold_356 : decode cL_isTold 356 = .ok (.aload 10, 2) := by decide +kernel
theorem dL_isTold_358 : decode cL_isTold 358 = .ok (.iconst 0, 1) := by decide +kernel
theorem dL_isTold_359 : decode cL_isTold 359 = .ok (.iaload, 1) := by decide +kernel
theorem dL_isTold_360 : decode cL_isTold 360 = .ok (.iconst 1, 1) := by decide +kernel
theorem dL_isTold_361 : decode cL_isTold 361 = .ok (.iadd, 1) := by decide +kernel
theorem dL_isTold_362 : decode cL_isTold 362 = .ok (.invokestatic 72, 3) := by decide +kernel
theorem dL_isTold_365 : decode cL_isTold 365 = .ok (.istore 17, 2) := by decide +kernel
theorem dL_isTold_367 : decode cL_isTold 367 = .ok (.iconst 1, 1) := by decide +kernel
theorem dL_isTold_368 : decode cL_isTold 368 = .ok (.iload_n 2, 1) := by decide +kernel
theorem dL_isTold_369 : decode cL_isTold 369 = .ok (.bipush 8, 2) := by decide +kernel
theorem dL_isTold_371 : decode cL_isTold 371 = .ok (.ishr, 1) := by decide +kernel
theorem dL_isTold_372 : decode cL_isTold 372 = .ok (.iload 13, 2) := by decide +kernel
theorem dL_isTold_374 : decode cL_isTold 374 = .ok (.ifCond .ne 9, 3) := by decide +kernel
theorem dL_isTold_377 : decode cL_isTold 377 = .ok (.sipush 10000, 3) := by decide +kernel
theorem dL_isTold_380 : decode cL_isTold 380 = .ok (.goto 5, 3) := by decide +kernel
theorem dL_isTold_383 : decode cL_isTold 383 = .ok (.bipush 25, 2) := by decide +kernel
theorem dL_isTold_385 : decode cL_isTold 385 = .ok (.invokestatic 72, 3) := by decide +kernel
theorem dL_isTold_388 : decode cL_isTold 388 = .ok (.iadd, 1) := by decide +kernel
theorem dL_isTold_389 : decode cL_isTold 389 = .ok (.istore 18, 2) := by decide +kernel
theorem dL_isTold_391 : decode cL_isTold 391 = .ok (.iconst 0, 1) := by decide +kernel
theorem dL_isTold_392 : decode cL_isTold 392 = .ok (.istore 19, 2) := by decide +kernel
theorem dL_isTold_394 : decode cL_isTold 394 = .ok (.iconst 0, 1) := by decide +kernel
theorem dL_isTold_395 : decode cL_isTold 395 = .ok (.istore 20, 2) := by decide +kernel
theorem dL_isTold_397 : decode cL_isTold 397 = .ok (.iload 20, 2) := by decide +kernel
theorem dL_isTold_399 : decode cL_isTold 399 = .ok (.aload 10, 2) := by decide +kernel
theorem dL_isTold_401 : decode cL_isTold 401 = .ok (.iconst 0, 1) := by decide +kernel
theorem dL_isTold_402 : decode cL_isTold 402 = .ok (.iaload, 1) := by decide +kernel
theorem dL_isTold_403 : decode cL_isTold 403 = .ok (.if_icmp .gt 80, 3) := by decide +kernel
theorem dL_isTold_406 : decode cL_isTold 406 = .ok (.iload 19, 2) := by decide +kernel
theorem dL_isTold_408 : decode cL_isTold 408 = .ok (.aload_n 3, 1) := by decide +kernel
theorem dL_isTold_409 : decode cL_isTold 409 = .ok (.aload 4, 2) := by decide +kernel
theorem dL_isTold_411 : decode cL_isTold 411 = .ok (.aload 5, 2) := by decide +kernel
theorem dL_isTold_413 : decode cL_isTold 413 = .ok (.aload 7, 2) := by decide +kernel
theorem dL_isTold_415 : decode cL_isTold 415 = .ok (.iload 14, 2) := by decide +kernel
theorem dL_isTold_417 : decode cL_isTold 417 = .ok (.bipush 8, 2) := by decide +kernel
theorem dL_isTold_419 : decode cL_isTold 419 = .ok (.iload 15, 2) := by decide +kernel
theorem dL_isTold_421 : decode cL_isTold 421 = .ok (.imul, 1) := by decide +kernel
theorem dL_isTold_422 : decode cL_isTold 422 = .ok (.iadd, 1) := by decide +kernel
theorem dL_isTold_423 : decode cL_isTold 423 = .ok (.iload 20, 2) := by decide +kernel
theorem dL_isTold_425 : decode cL_isTold 425 = .ok (.iload 20, 2) := by decide +kernel
theorem dL_isTold_427 : decode cL_isTold 427 = .ok (.aload 10, 2) := by decide +kernel
theorem dL_isTold_429 : decode cL_isTold 429 = .ok (.iconst 1, 1) := by decide +kernel
theorem dL_isTold_430 : decode cL_isTold 430 = .ok (.iaload, 1) := by decide +kernel
theorem dL_isTold_431 : decode cL_isTold 431 = .ok (.invokestatic 66, 3) := by decide +kernel
theorem dL_isTold_434 : decode cL_isTold 434 = .ok (.aload_n 3, 1) := by decide +kernel
theorem dL_isTold_435 : decode cL_isTold 435 = .ok (.aload 4, 2) := by decide +kernel
theorem dL_isTold_437 : decode cL_isTold 437 = .ok (.aload 5, 2) := by decide +kernel
theorem dL_isTold_439 : decode cL_isTold 439 = .ok (.aload 7, 2) := by decide +kernel
theorem dL_isTold_441 : decode cL_isTold 441 = .ok (.iload 14, 2) := by decide +kernel
theorem dL_isTold_443 : decode cL_isTold 443 = .ok (.bipush 8, 2) := by decide +kernel
theorem dL_isTold_445 : decode cL_isTold 445 = .ok (.iload 15, 2) := by decide +kernel
theorem dL_isTold_447 : decode cL_isTold 447 = .ok (.imul, 1) := by decide +kernel
theorem dL_isTold_448 : decode cL_isTold 448 = .ok (.iadd, 1) := by decide +kernel
theorem dL_isTold_449 : decode cL_isTold 449 = .ok (.iload 20, 2) := by decide +kernel
theorem dL_isTold_451 : decode cL_isTold 451 = .ok (.aload 10, 2) := by decide +kernel
theorem dL_isTold_453 : decode cL_isTold 453 = .ok (.iconst 0, 1) := by decide +kernel
theorem dL_isTold_454 : decode cL_isTold 454 = .ok (.iaload, 1) := by decide +kernel
theorem dL_isTold_455 : decode cL_isTold 455 = .ok (.aload 10, 2) := by decide +kernel
theorem dL_isTold_457 : decode cL_isTold 457 = .ok (.iconst 1, 1) := by decide +kernel
theorem dL_isTold_458 : decode cL_isTold 458 = .ok (.iaload, 1) := by decide +kernel
theorem dL_isTold_459 : decode cL_isTold 459 = .ok (.invokestatic 66, 3) := by decide +kernel
theorem dL_isTold_462 : decode cL_isTold 462 = .ok (.if_icmp .ne 7, 3) := by decide +kernel
theorem dL_isTold_465 : decode cL_isTold 465 = .ok (.iconst 0, 1) := by decide +kernel
theorem dL_isTold_466 : decode cL_isTold 466 = .ok (.goto 4, 3) := by decide +kernel
theorem dL_isTold_469 : decode cL_isTold 469 = .ok (.iconst 1, 1) := by decide +kernel
theorem dL_isTold_470 : decode cL_isTold 470 = .ok (.iadd, 1) := by decide +kernel
theorem dL_isTold_471 : decode cL_isTold 471 = .ok (.istore 19, 2) := by decide +kernel
theorem dL_isTold_473 : decode cL_isTold 473 = .ok (.iload 20, 2) := by decide +kernel
theorem dL_isTold_475 : decode cL_isTold 475 = .ok (.iload 18, 2) := by decide +kernel
theorem dL_isTold_477 : decode cL_isTold 477 = .ok (.iadd, 1) := by decide +kernel
theorem dL_isTold_478 : decode cL_isTold 478 = .ok (.istore 20, 2) := by decide +kernel
theorem dL_isTold_480 : decode cL_isTold 480 = .ok (.goto (-83), 3) := by decide +kernel
theorem dL_isTold_483 : decode cL_isTold 483 = .ok (.aload_n 0, 1) := by decide +kernel
theorem dL_isTold_484 : decode cL_isTold 484 = .ok (.iload 14, 2) := by decide +kernel
theorem dL_isTold_486 : decode cL_isTold 486 = .ok (.iload 15, 2) := by decide +kernel
theorem dL_isTold_488 : decode cL_isTold 488 = .ok (.iload 16, 2) := by decide +kernel
theorem dL_isTold_490 : decode cL_isTold 490 = .ok (.iload 17, 2) := by decide +kernel
theorem dL_isTold_492 : decode cL_isTold 492 = .ok (.invokestatic 117, 3) := by decide +kernel
theorem dL_isTold_495 : decode cL_isTold 495 = .ok (.aload_n 3, 1) := by decide +kernel
theorem dL_isTold_496 : decode cL_isTold 496 = .ok (.aload 4, 2) := by decide +kernel
theorem dL_isTold_498 : decode cL_isTold 498 = .ok (.aload 5, 2) := by decide +kernel
theorem dL_isTold_500 : decode cL_isTold 500 = .ok (.aload 7, 2) := by decide +kernel
theorem dL_isTold_502 : decode cL_isTold 502 = .ok (.iload 14, 2) := by decide +kernel
theorem dL_isTold_504 : decode cL_isTold 504 = .ok (.bipush 8, 2) := by decide +kernel
theorem dL_isTold_506 : decode cL_isTold 506 = .ok (.iload 15, 2) := by decide +kernel
theorem dL_isTold_508 : decode cL_isTold 508 = .ok (.imul, 1) := by decide +kernel
theorem dL_isTold_509 : decode cL_isTold 509 = .ok (.iadd, 1) := by decide +kernel
theorem dL_isTold_510 : decode cL_isTold 510 = .ok (.iload 16, 2) := by decide +kernel
theorem dL_isTold_512 : decode cL_isTold 512 = .ok (.iload 17, 2) := by decide +kernel
theorem dL_isTold_514 : decode cL_isTold 514 = .ok (.aload 10, 2) := by decide +kernel
theorem dL_isTold_516 : decode cL_isTold 516 = .ok (.iconst 1, 1) := by decide +kernel
theorem dL_isTold_517 : decode cL_isTold 517 = .ok (.iaload, 1) := by decide +kernel
theorem dL_isTold_518 : decode cL_isTold 518 = .ok (.invokestatic 66, 3) := by decide +kernel
theorem dL_isTold_521 : decode cL_isTold 521 = .ok (.if_icmp .ne 18, 3) := by decide +kernel
theorem dL_isTold_524 : decode cL_isTold 524 = .ok (.aload_n 0, 1) := by decide +kernel
theorem dL_isTold_525 : decode cL_isTold 525 = .ok (.iload 14, 2) := by decide +kernel
theorem dL_isTold_527 : decode cL_isTold 527 = .ok (.iload 15, 2) := by decide +kernel
theorem dL_isTold_529 : decode cL_isTold 529 = .ok (.iload 18, 2) := by decide +kernel
theorem dL_isTold_531 : decode cL_isTold 531 = .ok (.invokestatic 119, 3) := by decide +kernel
theorem dL_isTold_534 : decode cL_isTold 534 = .ok (.iload 19, 2) := by decide +kernel
theorem dL_isTold_536 : decode cL_isTold 536 = .ok (.if_icmp .eq 5, 3) := by decide +kernel
theorem dL_isTold_539 : decode cL_isTold 539 = .ok (.iconst 0, 1) := by decide +kernel
theorem dL_isTold_540 : decode cL_isTold 540 = .ok (.ireturn, 1) := by decide +kernel
theorem dL_isTold_541 : decode cL_isTold 541 = .ok (.aload_n 0, 1) := by decide +kernel
theorem dL_isTold_542 : decode cL_isTold 542 = .ok (.iload 14, 2) := by decide +kernel
theorem dL_isTold_544 : decode cL_isTold 544 = .ok (.iload 15, 2) := by decide +kernel
theorem dL_isTold_546 : decode cL_isTold 546 = .ok (.iload 13, 2) := by decide +kernel
theorem dL_isTold_548 : decode cL_isTold 548 = .ok (.iconst 2, 1) := by decide +kernel
theorem dL_isTold_549 : decode cL_isTold 549 = .ok (.if_icmp .ge 8, 3) := by decide +kernel
theorem dL_isTold_552 : decode cL_isTold 552 = .ok (.iload 18, 2) := by decide +kernel
theorem dL_isTold_554 : decode cL_isTold 554 = .ok (.goto 15, 3) := by decide +kernel
theorem dL_isTold_557 : decode cL_isTold 557 = .ok (.iconst 1, 1) := by decide +kernel
theorem dL_isTold_558 : decode cL_isTold 558 = .ok (.iload_n 1, 1) := by decide +kernel
theorem dL_isTold_559 : decode cL_isTold 559 = .ok (.bipush 9, 2) := by decide +kernel
theorem dL_isTold_561 : decode cL_isTold 561 = .ok (.ishr, 1) := by decide +kernel
theorem dL_isTold_562 : decode cL_isTold 562 = .ok (.sipush 200, 3) := by decide +kernel
theorem dL_isTold_565 : decode cL_isTold 565 = .ok (.invokestatic 72, 3) := by decide +kernel
theorem dL_isTold_568 : decode cL_isTold 568 = .ok (.iadd, 1) := by decide +kernel
theorem dL_isTold_569 : decode cL_isTold 569 = .ok (.iload 16, 2) := by decide +kernel
theorem dL_isTold_571 : decode cL_isTold 571 = .ok (.iload 17, 2) := by decide +kernel
theorem dL_isTold_573 : decode cL_isTold 573 = .ok (.if_icmp .ge 8, 3) := by decide +kernel
theorem dL_isTold_576 : decode cL_isTold 576 = .ok (.iload 16, 2) := by decide +kernel
theorem dL_isTold_578 : decode cL_isTold 578 = .ok (.goto 5, 3) := by decide +kernel
theorem dL_isTold_581 : decode cL_isTold 581 = .ok (.iload 17, 2) := by decide +kernel
theorem dL_isTold_583 : decode cL_isTold 583 = .ok (.iload 16, 2) := by decide +kernel
theorem dL_isTold_585 : decode cL_isTold 585 = .ok (.iload 17, 2) := by decide +kernel
theorem dL_isTold_587 : decode cL_isTold 587 = .ok (.if_icmp .ge 8, 3) := by decide +kernel
theorem dL_isTold_590 : decode cL_isTold 590 = .ok (.iload 17, 2) := by decide +kernel
theorem dL_isTold_592 : decode cL_isTold 592 = .ok (.goto 5, 3) := by decide +kernel
theorem dL_isTold_595 : decode cL_isTold 595 = .ok (.iload 16, 2) := by decide +kernel
theorem dL_isTold_597 : decode cL_isTold 597 = .ok (.aload_n 3, 1) := by decide +kernel
theorem dL_isTold_598 : decode cL_isTold 598 = .ok (.aload 4, 2) := by decide +kernel
theorem dL_isTold_600 : decode cL_isTold 600 = .ok (.aload 6, 2) := by decide +kernel
theorem dL_isTold_602 : decode cL_isTold 602 = .ok (.aload 10, 2) := by decide +kernel
theorem dL_isTold_604 : decode cL_isTold 604 = .ok (.invokestatic 121, 3) := by decide +kernel
theorem dL_isTold_607 : decode cL_isTold 607 = .ok (.ifCond .ne 5, 3) := by decide +kernel
theorem dL_isTold_610 : decode cL_isTold 610 = .ok (.iconst 0, 1) := by decide +kernel
theorem dL_isTold_611 : decode cL_isTold 611 = .ok (.ireturn, 1) := by decide +kernel
theorem dL_isTold_612 : decode cL_isTold 612 = .ok (.iinc 13 1, 3) := by decide +kernel
theorem dL_isTold_615 : decode cL_isTold 615 = .ok (.goto (-323), 3) := by decide +kernel
theorem dL_isTold_618 : decode cL_isTold 618 = .ok (.aload_n 0, 1) := by decide +kernel
theorem dL_isTold_619 : decode cL_isTold 619 = .ok (.invokevirtual 125, 3) := by decide +kernel
theorem dL_isTold_622 : decode cL_isTold 622 = .ok (.aload 10, 2) := by decide +kernel
theorem dL_isTold_624 : decode cL_isTold 624 = .ok (.iconst 0, 1) := by decide +kernel
theorem dL_isTold_625 : decode cL_isTold 625 = .ok (.iaload, 1) := by decide +kernel
theorem dL_isTold_626 : decode cL_isTold 626 = .ok (.if_icmp .ne 336, 3) := by decide +kernel
theorem dL_isTold_629 : decode cL_isTold 629 = .ok (.aload_n 0, 1) := by decide +kernel
theorem dL_isTold_630 : decode cL_isTold 630 = .ok (.invokevirtual 79, 3) := by decide +kernel
theorem dL_isTold_633 : decode cL_isTold 633 = .ok (.aload 10, 2) := by decide +kernel
theorem dL_isTold_635 : decode cL_isTold 635 = .ok (.iconst 1, 1) := by decide +kernel
theorem dL_isTold_636 : decode cL_isTold 636 = .ok (.iaload, 1) := by decide +kernel
theorem dL_isTold_637 : decode cL_isTold 637 = .ok (.if_icmp .ne 325, 3) := by decide +kernel
theorem dL_isTold_640 : decode cL_isTold 640 = .ok (.aload_n 0, 1) := by decide +kernel
theorem dL_isTold_641 : decode cL_isTold 641 = .ok (.invokevirtual 128, 3) := by decide +kernel
theorem dL_isTold_644 : decode cL_isTold 644 = .ok (.aload 10, 2) := by decide +kernel
theorem dL_isTold_646 : decode cL_isTold 646 = .ok (.iconst 1, 1) := by decide +kernel
theorem dL_isTold_647 : decode cL_isTold 647 = .ok (.iaload, 1) := by decide +kernel
theorem dL_isTold_648 : decode cL_isTold 648 = .ok (.aload 10, 2) := by decide +kernel
theorem dL_isTold_650 : decode cL_isTold 650 = .ok (.iconst 2, 1) := by decide +kernel
theorem dL_isTold_651 : decode cL_isTold 651 = .ok (.iaload, 1) := by decide +kernel
theorem dL_isTold_652 : decode cL_isTold 652 = .ok (.isub, 1) := by decide +kernel
theorem dL_isTold_653 : decode cL_isTold 653 = .ok (.if_icmp .ne 309, 3) := by decide +kernel
theorem dL_isTold_656 : decode cL_isTold 656 = .ok (.aload_n 0, 1) := by decide +kernel
theorem dL_isTold_657 : decode cL_isTold 657 = .ok (.invokevirtual 131, 3) := by decide +kernel
theorem dL_isTold_660 : decode cL_isTold 660 = .ok (.iload 12, 2) := by decide +kernel
theorem dL_isTold_662 : decode cL_isTold 662 = .ok (.if_icmp .ne 300, 3) := by decide +kernel
theorem dL_isTold_665 : decode cL_isTold 665 = .ok (.aload_n 0, 1) := by decide +kernel
theorem dL_isTold_666 : decode cL_isTold 666 = .ok (.invokevirtual 93, 3) := by decide +kernel
theorem dL_isTold_669 : decode cL_isTold 669 = .ok (.aload 10, 2) := by decide +kernel
theorem dL_isTold_671 : decode cL_isTold 671 = .ok (.iconst 3, 1) := by decide +kernel
theorem dL_isTold_672 : decode cL_isTold 672 = .ok (.iaload, 1) := by decide +kernel
theorem dL_isTold_673 : decode cL_isTold 673 = .ok (.if_icmp .ne 289, 3) := by decide +kernel
theorem dL_isTold_676 : decode cL_isTold 676 = .ok (.aload_n 0, 1) := by decide +kernel
theorem dL_isTold_677 : decode cL_isTold 677 = .ok (.invokevirtual 134, 3) := by decide +kernel
theorem dL_isTold_680 : decode cL_isTold 680 = .ok (.iload 11, 2) := by decide +kernel
theorem dL_isTold_682 : decode cL_isTold 682 = .ok (.if_icmp .ne 280, 3) := by decide +kernel
theorem dL_isTold_685 : decode cL_isTold 685 = .ok (.aload_n 0, 1) := by decide +kernel
theorem dL_isTold_686 : decode cL_isTold 686 = .ok (.aload 10, 2) := by decide +kernel
theorem dL_isTold_688 : decode cL_isTold 688 = .ok (.iconst 1, 1) := by decide +kernel
theorem dL_isTold_689 : decode cL_isTold 689 = .ok (.iaload, 1) := by decide +kernel
theorem dL_isTold_690 : decode cL_isTold 690 = .ok (.invokestatic 107, 3) := by decide +kernel
theorem dL_isTold_693 : decode cL_isTold 693 = .ok (.bipush (-71), 2) := by decide +kernel
theorem dL_isTold_695 : decode cL_isTold 695 = .ok (.if_icmp .ne 267, 3) := by decide +kernel
theorem dL_isTold_698 : decode cL_isTold 698 = .ok (.aload_n 0, 1) := by decide +kernel
theorem dL_isTold_699 : decode cL_isTold 699 = .ok (.iconst (-1), 1) := by decide +kernel
theorem dL_isTold_700 : decode cL_isTold 700 = .ok (.invokestatic 109, 3) := by decide +kernel
theorem dL_isTold_703 : decode cL_isTold 703 = .ok (.bipush (-71), 2) := by decide +kernel
theorem dL_isTold_705 : decode cL_isTold 705 = .ok (.if_icmp .ne 257, 3) := by decide +kernel
theorem dL_isTold_708 : decode cL_isTold 708 = .ok (.aload_n 0, 1) := by decide +kernel
theorem dL_isTold_709 : decode cL_isTold 709 = .ok (.aload 10, 2) := by decide +kernel
theorem dL_isTold_711 : decode cL_isTold 711 = .ok (.iconst 3, 1) := by decide +kernel
theorem dL_isTold_712 : decode cL_isTold 712 = .ok (.iaload, 1) := by decide +kernel
theorem dL_isTold_713 : decode cL_isTold 713 = .ok (.invokestatic 111, 3) := by decide +kernel
theorem dL_isTold_716 : decode cL_isTold 716 = .ok (.bipush (-71), 2) := by decide +kernel
theorem dL_isTold_718 : decode cL_isTold 718 = .ok (.if_icmp .ne 244, 3) := by decide +kernel
theorem dL_isTold_721 : decode cL_isTold 721 = .ok (.aload_n 0, 1) := by decide +kernel
theorem dL_isTold_722 : decode cL_isTold 722 = .ok (.aload 10, 2) := by decide +kernel
theorem dL_isTold_724 : decode cL_isTold 724 = .ok (.iconst 3, 1) := by decide +kernel
theorem dL_isTold_725 : decode cL_isTold 725 = .ok (.iaload, 1) := by decide +kernel
theorem dL_isTold_726 : decode cL_isTold 726 = .ok (.invokestatic 113, 3) := by decide +kernel
theorem dL_isTold_729 : decode cL_isTold 729 = .ok (.bipush (-71), 2) := by decide +kernel
theorem dL_isTold_731 : decode cL_isTold 731 = .ok (.if_icmp .ne 231, 3) := by decide +kernel
theorem dL_isTold_734 : decode cL_isTold 734 = .ok (.aload_n 0, 1) := by decide +kernel
theorem dL_isTold_735 : decode cL_isTold 735 = .ok (.iconst (-1), 1) := by decide +kernel
theorem dL_isTold_736 : decode cL_isTold 736 = .ok (.invokestatic 113, 3) := by decide +kernel
theorem dL_isTold_739 : decode cL_isTold 739 = .ok (.bipush (-71), 2) := by decide +kernel
theorem dL_isTold_741 : decode cL_isTold 741 = .ok (.if_icmp .ne 221, 3) := by decide +kernel
theorem dL_isTold_744 : decode cL_isTold 744 = .ok (.aload_n 0, 1) := by decide +kernel
theorem dL_isTold_745 : decode cL_isTold 745 = .ok (.bipush 6, 2) := by decide +kernel
theorem dL_isTold_747 : decode cL_isTold 747 = .ok (.iconst 0, 1) := by decide +kernel
theorem dL_isTold_748 : decode cL_isTold 748 = .ok (.iconst 0, 1) := by decide +kernel
theorem dL_isTold_749 : decode cL_isTold 749 = .ok (.iconst 0, 1) := by decide +kernel
theorem dL_isTold_750 : decode cL_isTold 750 = .ok (.invokestatic 117, 3) := by decide +kernel
theorem dL_isTold_753 : decode cL_isTold 753 = .ok (.bipush (-72), 2) := by decide +kernel
theorem dL_isTold_755 : decode cL_isTold 755 = .ok (.if_icmp .ne 207, 3) := by decide +kernel
theorem dL_isTold_758 : decode cL_isTold 758 = .ok (.aload_n 0, 1) := by decide +kernel
theorem dL_isTold_759 : decode cL_isTold 759 = .ok (.iconst 0, 1) := by decide +kernel
theorem dL_isTold_760 : decode cL_isTold 760 = .ok (.bipush 10, 2) := by decide +kernel
theorem dL_isTold_762 : decode cL_isTold 762 = .ok (.iconst 0, 1) := by decide +kernel
theorem dL_isTold_763 : decode cL_isTold 763 = .ok (.iconst 0, 1) := by decide +kernel
theorem dL_isTold_764 : decode cL_isTold 764 = .ok (.invokestatic 117, 3) := by decide +kernel
theorem dL_isTold_767 : decode cL_isTold 767 = .ok (.bipush (-72), 2) := by decide +kernel
theorem dL_isTold_769 : decode cL_isTold 769 = .ok (.if_icmp .ne 193, 3) := by decide +kernel
theorem dL_isTold_772 : decode cL_isTold 772 = .ok (.aload_n 0, 1) := by decide +kernel
theorem dL_isTold_773 : decode cL_isTold 773 = .ok (.iconst 0, 1) := by decide +kernel
theorem dL_isTold_774 : decode cL_isTold 774 = .ok (.iconst 0, 1) := by decide +kernel
theorem dL_isTold_775 : decode cL_isTold 775 = .ok (.sipush 10001, 3) := by decide +kernel
theorem dL_isTold_778 : decode cL_isTold 778 = .ok (.iconst 0, 1) := by decide +kernel
theorem dL_isTold_779 : decode cL_isTold 779 = .ok (.invokestatic 117, 3) := by decide +kernel
theorem dL_isTold_782 : decode cL_isTold 782 = .ok (.bipush (-72), 2) := by decide +kernel
theorem dL_isTold_784 : decode cL_isTold 784 = .ok (.if_icmp .ne 178, 3) := by decide +kernel
theorem dL_isTold_787 : decode cL_isTold 787 = .ok (.aload_n 0, 1) := by decide +kernel
theorem dL_isTold_788 : decode cL_isTold 788 = .ok (.iconst 0, 1) := by decide +kernel
theorem dL_isTold_789 : decode cL_isTold 789 = .ok (.iconst 0, 1) := by decide +kernel
theorem dL_isTold_790 : decode cL_isTold 790 = .ok (.iconst 0, 1) := by decide +kernel
theorem dL_isTold_791 : decode cL_isTold 791 = .ok (.aload 10, 2) := by decide +kernel
theorem dL_isTold_793 : decode cL_isTold 793 = .ok (.iconst 0, 1) := by decide +kernel
theorem dL_isTold_794 : decode cL_isTold 794 = .ok (.iaload, 1) := by decide +kernel
theorem dL_isTold_795 : decode cL_isTold 795 = .ok (.iconst 1, 1) := by decide +kernel
theorem dL_isTold_796 : decode cL_isTold 796 = .ok (.iadd, 1) := by decide +kernel
theorem dL_isTold_797 : decode cL_isTold 797 = .ok (.invokestatic 117, 3) := by decide +kernel
theorem dL_isTold_800 : decode cL_isTold 800 = .ok (.bipush (-72), 2) := by decide +kernel
theorem dL_isTold_802 : decode cL_isTold 802 = .ok (.if_icmp .ne 160, 3) := by decide +kernel
theorem dL_isTold_805 : decode cL_isTold 805 = .ok (.aload_n 0, 1) := by decide +kernel
theorem dL_isTold_806 : decode cL_isTold 806 = .ok (.iconst 0, 1) := by decide +kernel
theorem dL_isTold_807 : decode cL_isTold 807 = .ok (.iconst 0, 1) := by decide +kernel
theorem dL_isTold_808 : decode cL_isTold 808 = .ok (.iconst (-1), 1) := by decide +kernel
theorem dL_isTold_809 : decode cL_isTold 809 = .ok (.iconst 0, 1) := by decide +kernel
theorem dL_isTold_810 : decode cL_isTold 810 = .ok (.invokestatic 117, 3) := by decide +kernel
theorem dL_isTold_813 : decode cL_isTold 813 = .ok (.bipush (-72), 2) := by decide +kernel
theorem dL_isTold_815 : decode cL_isTold 815 = .ok (.if_icmp .ne 147, 3) := by decide +kernel
theorem dL_isTold_818 : decode cL_isTold 818 = .ok (.aload_n 0, 1) := by decide +kernel
theorem dL_isTold_819 : decode cL_isTold 819 = .ok (.iconst 0, 1) := by decide +kernel
theorem dL_isTold_820 : decode cL_isTold 820 = .ok (.iconst 0, 1) := by decide +kernel
theorem dL_isTold_821 : decode cL_isTold 821 = .ok (.iconst 5, 1) := by decide +kernel
theorem dL_isTold_822 : decode cL_isTold 822 = .ok (.iconst 4, 1) := by decide +kernel
theorem dL_isTold_823 : decode cL_isTold 823 = .ok (.invokestatic 100, 3) := by decide +kernel
theorem dL_isTold_826 : decode cL_isTold 826 = .ok (.bipush (-72), 2) := by decide +kernel
theorem dL_isTold_828 : decode cL_isTold 828 = .ok (.if_icmp .ne 134, 3) := by decide +kernel
theorem dL_isTold_831 : decode cL_isTold 831 = .ok (.aload_n 0, 1) := by decide +kernel
theorem dL_isTold_832 : decode cL_isTold 832 = .ok (.iconst 0, 1) := by decide +kernel
theorem dL_isTold_833 : decode cL_isTold 833 = .ok (.iconst 0, 1) := by decide +kernel
theorem dL_isTold_834 : decode cL_isTold 834 = .ok (.iconst 0, 1) := by decide +kernel
theorem dL_isTold_835 : decode cL_isTold 835 = .ok (.sipush 10001, 3) := by decide +kernel
theorem dL_isTold_838 : decode cL_isTold 838 = .ok (.invokestatic 100, 3) := by decide +kernel
theorem dL_isTold_841 : decode cL_isTold 841 = .ok (.bipush (-72), 2) := by decide +kernel
theorem dL_isTold_843 : decode cL_isTold 843 = .ok (.if_icmp .ne 119, 3) := by decide +kernel
theorem dL_isTold_846 : decode cL_isTold 846 = .ok (.aload_n 0, 1) := by decide +kernel
theorem dL_isTold_847 : decode cL_isTold 847 = .ok (.iconst 0, 1) := by decide +kernel
theorem dL_isTold_848 : decode cL_isTold 848 = .ok (.iconst (-1), 1) := by decide +kernel
theorem dL_isTold_849 : decode cL_isTold 849 = .ok (.iconst 0, 1) := by decide +kernel
theorem dL_isTold_850 : decode cL_isTold 850 = .ok (.iconst 0, 1) := by decide +kernel
theorem dL_isTold_851 : decode cL_isTold 851 = .ok (.invokestatic 100, 3) := by decide +kernel
theorem dL_isTold_854 : decode cL_isTold 854 = .ok (.bipush (-72), 2) := by decide +kernel
theorem dL_isTold_856 : decode cL_isTold 856 = .ok (.if_icmp .ne 106, 3) := by decide +kernel
theorem dL_isTold_859 : decode cL_isTold 859 = .ok (.aload_n 0, 1) := by decide +kernel
theorem dL_isTold_860 : decode cL_isTold 860 = .ok (.iconst 0, 1) := by decide +kernel
theorem dL_isTold_861 : decode cL_isTold 861 = .ok (.iconst 0, 1) := by decide +kernel
theorem dL_isTold_862 : decode cL_isTold 862 = .ok (.iconst 0, 1) := by decide +kernel
theorem dL_isTold_863 : decode cL_isTold 863 = .ok (.invokestatic 102, 3) := by decide +kernel
theorem dL_isTold_866 : decode cL_isTold 866 = .ok (.bipush (-72), 2) := by decide +kernel
theorem dL_isTold_868 : decode cL_isTold 868 = .ok (.if_icmp .ne 94, 3) := by decide +kernel
theorem dL_isTold_871 : decode cL_isTold 871 = .ok (.aload_n 0, 1) := by decide +kernel
theorem dL_isTold_872 : decode cL_isTold 872 = .ok (.iconst 0, 1) := by decide +kernel
theorem dL_isTold_873 : decode cL_isTold 873 = .ok (.iconst 0, 1) := by decide +kernel
theorem dL_isTold_874 : decode cL_isTold 874 = .ok (.sipush 10001, 3) := by decide +kernel
theorem dL_isTold_877 : decode cL_isTold 877 = .ok (.invokestatic 102, 3) := by decide +kernel
theorem dL_isTold_880 : decode cL_isTold 880 = .ok (.bipush (-72), 2) := by decide +kernel
theorem dL_isTold_882 : decode cL_isTold 882 = .ok (.if_icmp .ne 80, 3) := by decide +kernel
theorem dL_isTold_885 : decode cL_isTold 885 = .ok (.aload_n 0, 1) := by decide +kernel
theorem dL_isTold_886 : decode cL_isTold 886 = .ok (.bipush 6, 2) := by decide +kernel
theorem dL_isTold_888 : decode cL_isTold 888 = .ok (.iconst 0, 1) := by decide +kernel
theorem dL_isTold_889 : decode cL_isTold 889 = .ok (.iconst 1, 1) := by decide +kernel
theorem dL_isTold_890 : decode cL_isTold 890 = .ok (.invokestatic 105, 3) := by decide +kernel
theorem dL_isTold_893 : decode cL_isTold 893 = .ok (.bipush (-72), 2) := by decide +kernel
theorem dL_isTold_895 : decode cL_isTold 895 = .ok (.if_icmp .ne 67, 3) := by decide +kernel
theorem dL_isTold_898 : decode cL_isTold 898 = .ok (.aload_n 0, 1) := by decide +kernel
theorem dL_isTold_899 : decode cL_isTold 899 = .ok (.iconst 0, 1) := by decide +kernel
theorem dL_isTold_900 : decode cL_isTold 900 = .ok (.iconst 0, 1) := by decide +kernel
theorem dL_isTold_901 : decode cL_isTold 901 = .ok (.iconst 0, 1) := by decide +kernel
theorem dL_isTold_902 : decode cL_isTold 902 = .ok (.invokestatic 105, 3) := by decide +kernel
theorem dL_isTold_905 : decode cL_isTold 905 = .ok (.bipush (-72), 2) := by decide +kernel
theorem dL_isTold_907 : decode cL_isTold 907 = .ok (.if_icmp .ne 55, 3) := by decide +kernel
theorem dL_isTold_910 : decode cL_isTold 910 = .ok (.aload_n 0, 1) := by decide +kernel
theorem dL_isTold_911 : decode cL_isTold 911 = .ok (.iconst 0, 1) := by decide +kernel
theorem dL_isTold_912 : decode cL_isTold 912 = .ok (.iconst 0, 1) := by decide +kernel
theorem dL_isTold_913 : decode cL_isTold 913 = .ok (.iconst 0, 1) := by decide +kernel
theorem dL_isTold_914 : decode cL_isTold 914 = .ok (.invokestatic 119, 3) := by decide +kernel
theorem dL_isTold_917 : decode cL_isTold 917 = .ok (.bipush (-72), 2) := by decide +kernel
theorem dL_isTold_919 : decode cL_isTold 919 = .ok (.if_icmp .ne 43, 3) := by decide +kernel
theorem dL_isTold_922 : decode cL_isTold 922 = .ok (.aload_n 0, 1) := by decide +kernel
theorem dL_isTold_923 : decode cL_isTold 923 = .ok (.iconst 0, 1) := by decide +kernel
theorem dL_isTold_924 : decode cL_isTold 924 = .ok (.bipush 10, 2) := by decide +kernel
theorem dL_isTold_926 : decode cL_isTold 926 = .ok (.iconst 1, 1) := by decide +kernel
theorem dL_isTold_927 : decode cL_isTold 927 = .ok (.invokestatic 119, 3) := by decide +kernel
theorem dL_isTold_930 : decode cL_isTold 930 = .ok (.bipush (-72), 2) := by decide +kernel
theorem dL_isTold_932 : decode cL_isTold 932 = .ok (.if_icmp .ne 30, 3) := by decide +kernel
theorem dL_isTold_935 : decode cL_isTold 935 = .ok (.aload_n 0, 1) := by decide +kernel
theorem dL_isTold_936 : decode cL_isTold 936 = .ok (.iconst (-1), 1) := by decide +kernel
theorem dL_isTold_937 : decode cL_isTold 937 = .ok (.iconst 0, 1) := by decide +kernel
theorem dL_isTold_938 : decode cL_isTold 938 = .ok (.invokestatic 115, 3) := by decide +kernel
theorem dL_isTold_941 : decode cL_isTold 941 = .ok (.bipush (-72), 2) := by decide +kernel
theorem dL_isTold_943 : decode cL_isTold 943 = .ok (.if_icmp .ne 19, 3) := by decide +kernel
theorem dL_isTold_946 : decode cL_isTold 946 = .ok (.aload_n 0, 1) := by decide +kernel
theorem dL_isTold_947 : decode cL_isTold 947 = .ok (.iconst 0, 1) := by decide +kernel
theorem dL_isTold_948 : decode cL_isTold 948 = .ok (.bipush 10, 2) := by decide +kernel
theorem dL_isTold_950 : decode cL_isTold 950 = .ok (.invokestatic 115, 3) := by decide +kernel
theorem dL_isTold_953 : decode cL_isTold 953 = .ok (.bipush (-72), 2) := by decide +kernel
theorem dL_isTold_955 : decode cL_isTold 955 = .ok (.if_icmp .ne 7, 3) := by decide +kernel
theorem dL_isTold_958 : decode cL_isTold 958 = .ok (.iconst 1, 1) := by decide +kernel
theorem dL_isTold_959 : decode cL_isTold 959 = .ok (.goto 4, 3) := by decide +kernel
theorem dL_isTold_962 : decode cL_isTold 962 = .ok (.iconst 0, 1) := by decide +kernel
theorem dL_isTold_963 : decode cL_isTold 963 = .ok (.ireturn, 1) := by decide +kernel
set_option maxRecDepth 20000 in
theorem ggL_law_X2_init : GoodIn wsL_law wsX2_init := goodIn_r _ [6, 7, 8, 9, 3, 10, 11, 12, 13, 14, 15, 16, 269, 270, 271, 272, 273, 274, 275, 276, 277] (by decide +kernel) (by decide +kernel)
set_option maxRecDepth 20000 in
theorem gL_law_X2_init : GoodIn wsL_law (wsX2_init) := ggL_law_X2_init
set_option maxRecDepth 20000 in
theorem ggL_law_L_cell : GoodIn wsL_law wsL_cell := goodIn_r _ [193, 194] (by decide +kernel) (by decide +kernel)
set_option maxRecDepth 20000 in
theorem gL_law_L_cell : GoodIn wsL_law (va_wsS RL 142 yL_cell wsL_cell) := goodIn_app (goodIn_of _ (by decide +kernel)) ggL_law_L_cell
set_option maxRecDepth 20000 in
theorem ggL_law_L_low : GoodIn wsL_law wsL_low := goodIn_r _ [116] (by decide +kernel) (by decide +kernel)
set_option maxRecDepth 20000 in
theorem gL_law_L_low : GoodIn wsL_law (va_wsS RL 72 yL_low wsL_low) := goodIn_app (goodIn_of _ (by decide +kernel)) ggL_law_L_low
theorem dL_law_0 : decode cL_law 0 = .ok (.new 9, 3) := by decide +kernel
theorem dL_law_3 : decode cL_law 3 = .ok (.dup, 1) := by decide +kernel
theorem dL_law_4 : decode cL_law 4 = .ok (.invokespecial 137, 3) := by decide +kernel
theorem dL_law_7 : decode cL_law 7 = .ok (.astore_n 1, 1) := by decide +kernel
theorem dL_law_8 : decode cL_law 8 = .ok (.bipush 60, 2) := by decide +kernel
theorem dL_law_10 : decode cL_law 10 = .ok (.newarray .int, 2) := by decide +kernel
theorem dL_law_12 : decode cL_law 12 = .ok (.astore_n 2, 1) := by decide +kernel
theorem dL_law_13 : decode cL_law 13 = .ok (.bipush 60, 2) := by decide +kernel
theorem dL_law_15 : decode cL_law 15 = .ok (.newarray .int, 2) := by decide +kernel
theorem dL_law_17 : decode cL_law 17 = .ok (.astore_n 3, 1) := by decide +kernel
theorem dL_law_18 : decode cL_law 18 = .ok (.bipush 60, 2) := by decide +kernel
theorem dL_law_20 : decode cL_law 20 = .ok (.newarray .int, 2) := by decide +kernel
theorem dL_law_22 : decode cL_law 22 = .ok (.astore 4, 2) := by decide +kernel
theorem dL_law_24 : decode cL_law 24 = .ok (.bipush 60, 2) := by decide +kernel
theorem dL_law_26 : decode cL_law 26 = .ok (.newarray .int, 2) := by decide +kernel
theorem dL_law_28 : decode cL_law 28 = .ok (.astore 5, 2) := by decide +kernel
theorem dL_law_30 : decode cL_law 30 = .ok (.bipush 6, 2) := by decide +kernel
theorem dL_law_32 : decode cL_law 32 = .ok (.newarray .int, 2) := by decide +kernel
theorem dL_law_34 : decode cL_law 34 = .ok (.astore 6, 2) := by decide +kernel
theorem dL_law_36 : decode cL_law 36 = .ok (.bipush 60, 2) := by decide +kernel
theorem dL_law_38 : decode cL_law 38 = .ok (.newarray .int, 2) := by decide +kernel
theorem dL_law_40 : decode cL_law 40 = .ok (.astore 7, 2) := by decide +kernel
theorem dL_law_42 : decode cL_law 42 = .ok (.bipush 60, 2) := by decide +kernel
theorem dL_law_44 : decode cL_law 44 = .ok (.newarray .int, 2) := by decide +kernel
theorem dL_law_46 : decode cL_law 46 = .ok (.astore 8, 2) := by decide +kernel
theorem dL_law_48 : decode cL_law 48 = .ok (.iconst 4, 1) := by decide +kernel
theorem dL_law_49 : decode cL_law 49 = .ok (.newarray .int, 2) := by decide +kernel
theorem dL_law_51 : decode cL_law 51 = .ok (.astore 9, 2) := by decide +kernel
theorem dL_law_53 : decode cL_law 53 = .ok (.iconst 0, 1) := by decide +kernel
theorem dL_law_54 : decode cL_law 54 = .ok (.istore 10, 2) := by decide +kernel
theorem dL_law_56 : decode cL_law 56 = .ok (.iload 10, 2) := by decide +kernel
theorem dL_law_58 : decode cL_law 58 = .ok (.bipush 6, 2) := by decide +kernel
theorem dL_law_60 : decode cL_law 60 = .ok (.if_icmp .ge 17, 3) := by decide +kernel
theorem dL_law_63 : decode cL_law 63 = .ok (.aload 6, 2) := by decide +kernel
theorem dL_law_65 : decode cL_law 65 = .ok (.iload 10, 2) := by decide +kernel
theorem dL_law_67 : decode cL_law 67 = .ok (.sipush 10000, 3) := by decide +kernel
theorem dL_law_70 : decode cL_law 70 = .ok (.iastore, 1) := by decide +kernel
theorem dL_law_71 : decode cL_law 71 = .ok (.iinc 10 1, 3) := by decide +kernel
theorem dL_law_74 : decode cL_law 74 = .ok (.goto (-18), 3) := by decide +kernel
theorem dL_law_77 : decode cL_law 77 = .ok (.aload_n 1, 1) := by decide +kernel
theorem dL_law_78 : decode cL_law 78 = .ok (.iconst 0, 1) := by decide +kernel
theorem dL_law_79 : decode cL_law 79 = .ok (.iconst 0, 1) := by decide +kernel
theorem dL_law_80 : decode cL_law 80 = .ok (.aload_n 2, 1) := by decide +kernel
theorem dL_law_81 : decode cL_law 81 = .ok (.aload_n 3, 1) := by decide +kernel
theorem dL_law_82 : decode cL_law 82 = .ok (.aload 4, 2) := by decide +kernel
theorem dL_law_84 : decode cL_law 84 = .ok (.aload 5, 2) := by decide +kernel
theorem dL_law_86 : decode cL_law 86 = .ok (.aload 6, 2) := by decide +kernel
theorem dL_law_88 : decode cL_law 88 = .ok (.aload 7, 2) := by decide +kernel
theorem dL_law_90 : decode cL_law 90 = .ok (.aload 8, 2) := by decide +kernel
theorem dL_law_92 : decode cL_law 92 = .ok (.aload 9, 2) := by decide +kernel
theorem dL_law_94 : decode cL_law 94 = .ok (.invokestatic 138, 3) := by decide +kernel
theorem dL_law_97 : decode cL_law 97 = .ok (.ifCond .ne 5, 3) := by decide +kernel
theorem dL_law_100 : decode cL_law 100 = .ok (.iconst 0, 1) := by decide +kernel
theorem dL_law_101 : decode cL_law 101 = .ok (.ireturn, 1) := by decide +kernel
theorem dL_law_102 : decode cL_law 102 = .ok (.iconst 0, 1) := by decide +kernel
theorem dL_law_103 : decode cL_law 103 = .ok (.istore 10, 2) := by decide +kernel
theorem dL_law_105 : decode cL_law 105 = .ok (.iload 10, 2) := by decide +kernel
theorem dL_law_107 : decode cL_law 107 = .ok (.bipush 100, 2) := by decide +kernel
theorem dL_law_109 : decode cL_law 109 = .ok (.if_icmp .ge 112, 3) := by decide +kernel
theorem dL_law_112 : decode cL_law 112 = .ok (.aload_n 0, 1) := by decide +kernel
theorem dL_law_113 : decode cL_law 113 = .ok (.iconst 3, 1) := by decide +kernel
theorem dL_law_114 : decode cL_law 114 = .ok (.iload 10, 2) := by decide +kernel
theorem dL_law_116 : decode cL_law 116 = .ok (.imul, 1) := by decide +kernel
theorem dL_law_117 : decode cL_law 117 = .ok (.invokestatic 142, 3) := by decide +kernel
theorem dL_law_120 : decode cL_law 120 = .ok (.istore 11, 2) := by decide +kernel
theorem dL_law_122 : decode cL_law 122 = .ok (.aload_n 0, 1) := by decide +kernel
theorem dL_law_123 : decode cL_law 123 = .ok (.iconst 3, 1) := by decide +kernel
theorem dL_law_124 : decode cL_law 124 = .ok (.iload 10, 2) := by decide +kernel
theorem dL_law_126 : decode cL_law 126 = .ok (.imul, 1) := by decide +kernel
theorem dL_law_127 : decode cL_law 127 = .ok (.iconst 1, 1) := by decide +kernel
theorem dL_law_128 : decode cL_law 128 = .ok (.iadd, 1) := by decide +kernel
theorem dL_law_129 : decode cL_law 129 = .ok (.invokestatic 142, 3) := by decide +kernel
theorem dL_law_132 : decode cL_law 132 = .ok (.istore 12, 2) := by decide +kernel
theorem dL_law_134 : decode cL_law 134 = .ok (.aload_n 0, 1) := by decide +kernel
theorem dL_law_135 : decode cL_law 135 = .ok (.iconst 3, 1) := by decide +kernel
theorem dL_law_136 : decode cL_law 136 = .ok (.iload 10, 2) := by decide +kernel
theorem dL_law_138 : decode cL_law 138 = .ok (.imul, 1) := by decide +kernel
theorem dL_law_139 : decode cL_law 139 = .ok (.iconst 2, 1) := by decide +kernel
theorem dL_law_140 : decode cL_law 140 = .ok (.iadd, 1) := by decide +kernel
theorem dL_law_141 : decode cL_law 141 = .ok (.invokestatic 142, 3) := by decide +kernel
theorem dL_law_144 : decode cL_law 144 = .ok (.istore 13, 2) := by decide +kernel
theorem dL_law_146 : decode cL_law 146 = .ok (.aload_n 1, 1) := by decide +kernel
theorem dL_law_147 : decode cL_law 147 = .ok (.iload 11, 2) := by decide +kernel
theorem dL_law_149 : decode cL_law 149 = .ok (.bipush 18, 2) := by decide +kernel
theorem dL_law_151 : decode cL_law 151 = .ok (.invokestatic 72, 3) := by decide +kernel
theorem dL_law_154 : decode cL_law 154 = .ok (.iload 12, 2) := by decide +kernel
theorem dL_law_156 : decode cL_law 156 = .ok (.iload 13, 2) := by decide +kernel
theorem dL_law_158 : decode cL_law 158 = .ok (.aload_n 2, 1) := by decide +kernel
theorem dL_law_159 : decode cL_law 159 = .ok (.aload_n 3, 1) := by decide +kernel
theorem dL_law_160 : decode cL_law 160 = .ok (.aload 4, 2) := by decide +kernel
theorem dL_law_162 : decode cL_law 162 = .ok (.aload 5, 2) := by decide +kernel
theorem dL_law_164 : decode cL_law 164 = .ok (.aload 6, 2) := by decide +kernel
theorem dL_law_166 : decode cL_law 166 = .ok (.aload 7, 2) := by decide +kernel
theorem dL_law_168 : decode cL_law 168 = .ok (.aload 8, 2) := by decide +kernel
theorem dL_law_170 : decode cL_law 170 = .ok (.aload 9, 2) := by decide +kernel
theorem dL_law_172 : decode cL_law 172 = .ok (.invokestatic 146, 3) := by decide +kernel
theorem dL_law_175 : decode cL_law 175 = .ok (.ifCond .eq 38, 3) := by decide +kernel
theorem dL_law_178 : decode cL_law 178 = .ok (.aload_n 1, 1) := by decide +kernel
theorem dL_law_179 : decode cL_law 179 = .ok (.iload 11, 2) := by decide +kernel
theorem dL_law_181 : decode cL_law 181 = .ok (.iconst 5, 1) := by decide +kernel
theorem dL_law_182 : decode cL_law 182 = .ok (.ishr, 1) := by decide +kernel
theorem dL_law_183 : decode cL_law 183 = .ok (.iload 12, 2) := by decide +kernel
theorem dL_law_185 : decode cL_law 185 = .ok (.ixor, 1) := by decide +kernel
theorem dL_law_186 : decode cL_law 186 = .ok (.iload 13, 2) := by decide +kernel
theorem dL_law_188 : decode cL_law 188 = .ok (.iload 12, 2) := by decide +kernel
theorem dL_law_190 : decode cL_law 190 = .ok (.iconst 3, 1) := by decide +kernel
theorem dL_law_191 : decode cL_law 191 = .ok (.ishr, 1) := by decide +kernel
theorem dL_law_192 : decode cL_law 192 = .ok (.ixor, 1) := by decide +kernel
theorem dL_law_193 : decode cL_law 193 = .ok (.aload_n 2, 1) := by decide +kernel
theorem dL_law_194 : decode cL_law 194 = .ok (.aload_n 3, 1) := by decide +kernel
theorem dL_law_195 : decode cL_law 195 = .ok (.aload 4, 2) := by decide +kernel
theorem dL_law_197 : decode cL_law 197 = .ok (.aload 5, 2) := by decide +kernel
theorem dL_law_199 : decode cL_law 199 = .ok (.aload 6, 2) := by decide +kernel
theorem dL_law_201 : decode cL_law 201 = .ok (.aload 7, 2) := by decide +kernel
theorem dL_law_203 : decode cL_law 203 = .ok (.aload 8, 2) := by decide +kernel
theorem dL_law_205 : decode cL_law 205 = .ok (.aload 9, 2) := by decide +kernel
theorem dL_law_207 : decode cL_law 207 = .ok (.invokestatic 138, 3) := by decide +kernel
theorem dL_law_210 : decode cL_law 210 = .ok (.ifCond .ne 5, 3) := by decide +kernel
theorem dL_law_213 : decode cL_law 213 = .ok (.iconst 0, 1) := by decide +kernel
theorem dL_law_214 : decode cL_law 214 = .ok (.ireturn, 1) := by decide +kernel
theorem dL_law_215 : decode cL_law 215 = .ok (.iinc 10 1, 3) := by decide +kernel
theorem dL_law_218 : decode cL_law 218 = .ok (.goto (-113), 3) := by decide +kernel
theorem dL_law_221 : decode cL_law 221 = .ok (.iconst 1, 1) := by decide +kernel
theorem dL_law_222 : decode cL_law 222 = .ok (.ireturn, 1) := by decide +kernel
abbrev vwCl : List vw_C := [(RX0, TX0, 7), (RX1, TX1, 4), (RX2, TX2, 9)]
/-! ===== END printed: names ===== -/
end
section
/-! printed names, last: the law's own words among the tables'; of the two long methods by the word's own place, never by its bytes -/
theorem in_20 : ∀ w ∈ wsX20, w ∈ lw_tbl := by decide +kernel
theorem in_00 : ∀ w ∈ wsX00, w ∈ lw_tbl := by decide +kernel
theorem in_10 : ∀ w ∈ wsX10, w ∈ lw_tbl := by decide +kernel
set_option maxRecDepth 20000 in
theorem in_wsL_law0_r1_a : ∀ w ∈ wsL_law0_r1_a, w ∈ lw_tbl := fun w h => (goodIn_p wsL_law0_r1_a [24, 27] (by decide +kernel) (by decide +kernel) w h).1
theorem in_wsL_law0_r1_b : ∀ w ∈ wsL_law0_r1_b, w ∈ lw_tbl := fun w h => by rw [List.mem_singleton.mp h]; exact List.mem_of_getElem? (i := 296) (by rfl)
set_option maxRecDepth 20000 in
theorem in_wsL_law0_r1_c : ∀ w ∈ wsL_law0_r1_c, w ∈ lw_tbl := fun w h => (goodIn_p wsL_law0_r1_c [] (by decide +kernel) (by decide +kernel) w h).1
theorem in_wsL_law0_r1 : ∀ w ∈ wsL_law0_r1, w ∈ lw_tbl := fun w h => (List.mem_append.mp h).elim (fun h => in_wsL_law0_r1_a w h) (fun h => (List.mem_append.mp h).elim (fun h => in_wsL_law0_r1_b w h) (fun h => in_wsL_law0_r1_c w h))
set_option maxRecDepth 20000 in
theorem in_wsL_law0_r2 : ∀ w ∈ wsL_law0_r2, w ∈ lw_tbl := fun w h => (goodIn_p wsL_law0_r2 [304, 308, 241, 331] (by decide +kernel) (by decide +kernel) w h).1
set_option maxRecDepth 20000 in
theorem in_wsL_law0_r3 : ∀ w ∈ wsL_law0_r3, w ∈ lw_tbl := fun w h => (goodIn_p wsL_law0_r3 [293, 338, 342] (by decide +kernel) (by decide +kernel) w h).1
set_option maxRecDepth 20000 in
theorem in_wsL_law0_r4 : ∀ w ∈ wsL_law0_r4, w ∈ lw_tbl := fun w h => (goodIn_p wsL_law0_r4 [350, 354, 210, 261, 290] (by decide +kernel) (by decide +kernel) w h).1
set_option maxRecDepth 20000 in
theorem in_wsL_law0_r5 : ∀ w ∈ wsL_law0_r5, w ∈ lw_tbl := fun w h => (goodIn_p wsL_law0_r5 [361, 82, 85, 257, 67] (by decide +kernel) (by decide +kernel) w h).1
set_option maxRecDepth 20000 in
theorem in_wsL_law0_r6 : ∀ w ∈ wsL_law0_r6, w ∈ lw_tbl := fun w h => (goodIn_p wsL_law0_r6 [368, 375, 378, 381, 384] (by decide +kernel) (by decide +kernel) w h).1
set_option maxRecDepth 20000 in
theorem in_wsL_law0_r7 : ∀ w ∈ wsL_law0_r7, w ∈ lw_tbl := fun w h => (goodIn_p wsL_law0_r7 [391, 398, 401, 408] (by decide +kernel) (by decide +kernel) w h).1
set_option maxRecDepth 20000 in
theorem in_wsL_law0_r8 : ∀ w ∈ wsL_law0_r8, w ∈ lw_tbl := fun w h => (goodIn_p wsL_law0_r8 [412, 214, 416, 420, 287, 424] (by decide +kernel) (by decide +kernel) w h).1
set_option maxRecDepth 20000 in
theorem in_wsL_law0_r9_a : ∀ w ∈ wsL_law0_r9_a, w ∈ lw_tbl := fun w h => (goodIn_p wsL_law0_r9_a [63] (by decide +kernel) (by decide +kernel) w h).1
theorem in_wsL_law0_r9_b : ∀ w ∈ wsL_law0_r9_b, w ∈ lw_tbl := fun w h => by rw [List.mem_singleton.mp h]; exact List.mem_of_getElem? (i := 70) (by rfl)
set_option maxRecDepth 20000 in
theorem in_wsL_law0_r9_c : ∀ w ∈ wsL_law0_r9_c, w ∈ lw_tbl := fun w h => (goodIn_p wsL_law0_r9_c [79, 174] (by decide +kernel) (by decide +kernel) w h).1
theorem in_wsL_law0_r9 : ∀ w ∈ wsL_law0_r9, w ∈ lw_tbl := fun w h => (List.mem_append.mp h).elim (fun h => in_wsL_law0_r9_a w h) (fun h => (List.mem_append.mp h).elim (fun h => in_wsL_law0_r9_b w h) (fun h => in_wsL_law0_r9_c w h))
set_option maxRecDepth 20000 in
theorem in_wsL_law0_r10 : ∀ w ∈ wsL_law0_r10, w ∈ lw_tbl := fun w h => (goodIn_p wsL_law0_r10 [207, 222] (by decide +kernel) (by decide +kernel) w h).1
set_option maxRecDepth 20000 in
theorem in_wsL_law0_r11 : ∀ w ∈ wsL_law0_r11, w ∈ lw_tbl := fun w h => (goodIn_p wsL_law0_r11 [230, 237, 245, 252, 265] (by decide +kernel) (by decide +kernel) w h).1
set_option maxRecDepth 20000 in
theorem in_wsL_law0_r12 : ∀ w ∈ wsL_law0_r12, w ∈ lw_tbl := fun w h => (goodIn_p wsL_law0_r12 [] (by decide +kernel) (by decide +kernel) w h).1
theorem wsL_law_in0 : ∀ w ∈ wsL_law0, w ∈ lw_tbl := fun w h => (List.mem_append.mp h).elim (fun h => (List.mem_append.mp h).elim (fun h => (List.mem_append.mp h).elim (fun h => (List.mem_append.mp h).elim (fun h => (List.mem_append.mp h).elim (fun h => in_wsL_law0_r1 w h) (fun h => (List.mem_append.mp h).elim (fun h => in_wsL_law0_r2 w h) (fun h => (List.mem_append.mp h).elim (fun h => in_wsL_law0_r3 w h) (fun h => (List.mem_append.mp h).elim (fun h => in_wsL_law0_r4 w h) (fun h => (List.mem_append.mp h).elim (fun h => in_wsL_law0_r5 w h) (fun h => (List.mem_append.mp h).elim (fun h => in_wsL_law0_r6 w h) (fun h => (List.mem_append.mp h).elim (fun h => in_wsL_law0_r7 w h) (fun h => (List.mem_append.mp h).elim (fun h => in_wsL_law0_r8 w h) (fun h => (List.mem_append.mp h).elim (fun h => in_wsL_law0_r9 w h) (fun h => (List.mem_append.mp h).elim (fun h => in_wsL_law0_r10 w h) (fun h => (List.mem_append.mp h).elim (fun h => in_wsL_law0_r11 w h) (fun h => in_wsL_law0_r12 w h)))))))))))) (fun h => in_20 w h)) (fun h => in_00 w h)) (fun h => in_10 w h)) (fun h => absurd h List.not_mem_nil)
theorem wsL_law_x0 : ∀ w ∈ (vx_atS RX2 151 "java/lang/IndexOutOfBoundsException" ["java/lang/RuntimeException", "java/lang/Exception"]).filter goodWord, w ∈ lw_tbl := by decide +kernel
theorem wsL_law_x1 : ∀ w ∈ (vx_atS RX2 146 "java/lang/IllegalArgumentException" ["java/lang/RuntimeException", "java/lang/Exception"]).filter goodWord, w ∈ lw_tbl := by decide +kernel
theorem wsL_law_x2 : ∀ w ∈ (vx_atS RX2 51 "java/lang/IllegalStateException" ["java/lang/RuntimeException", "java/lang/Exception"]).filter goodWord, w ∈ lw_tbl := by decide +kernel
theorem wsL_law_in : ∀ w ∈ wsL_law, w ∈ lw_tbl := fun w h => (List.mem_append.mp h).elim (fun h => (List.mem_append.mp h).elim (fun h => (List.mem_append.mp h).elim (fun h => wsL_law_in0 w h) (fun h => wsL_law_x0 w h)) (fun h => wsL_law_x1 w h)) (fun h => wsL_law_x2 w h)
theorem inlX0 : ∀ w ∈ wsX00, w ∈ wsL_law := fun _ h => List.mem_append_left _ (List.mem_append_left _ (List.mem_append_left _ (List.mem_append_left _ (List.mem_append_left _ (List.mem_append_right _ h)))))
theorem inX0 : ∀ w ∈ wsX00, w ∈ lw_tbl := fun w h => wsL_law_in w (inlX0 w h)
theorem inlX1 : ∀ w ∈ wsX10, w ∈ wsL_law := fun _ h => List.mem_append_left _ (List.mem_append_left _ (List.mem_append_left _ (List.mem_append_left _ (List.mem_append_right _ h))))
theorem inX1 : ∀ w ∈ wsX10, w ∈ lw_tbl := fun w h => wsL_law_in w (inlX1 w h)
theorem inlX2 : ∀ w ∈ wsX20, w ∈ wsL_law := fun _ h => List.mem_append_left _ (List.mem_append_left _ (List.mem_append_left _ (List.mem_append_left _ (List.mem_append_left _ (List.mem_append_left _ (List.mem_append_right _ h))))))
theorem inX2 : ∀ w ∈ wsX20, w ∈ lw_tbl := fun w h => wsL_law_in w (inlX2 w h)
theorem goodIn_hd {big a : List Cond} {c : Cond} {i : Nat} (h : big[i]? = some c) (hg : goodWord c = true) (ha : GoodIn big a) : GoodIn big (c :: a) := by
  intro w hw
  rcases List.mem_cons.mp hw with rfl | hw
  · exact ⟨List.mem_of_getElem? h, good_of_word hg⟩
  · exact ha w hw
set_option maxRecDepth 20000 in
theorem ggL_law_L_isTold : GoodIn wsL_law wsL_isTold := goodIn_ca (goodIn_ca (goodIn_hd (i := 20) (by rfl) (by rfl) (goodIn_r _ [21, 22, 19, 23, 24, 25, 26, 27, 2, 28, 29, 30, 31, 32, 33, 34, 35, 36, 37, 38, 39, 40, 12, 41, 42, 43, 44, 45, 46, 47, 48, 49, 50, 51, 52, 53, 54, 55, 56, 57, 58, 59, 60, 61, 62, 63, 64, 65, 16, 66, 67, 68, 69, 70, 71, 72, 73, 74, 75, 76, 77, 78, 79, 13, 80, 81, 82, 83, 84, 85, 86, 87, 10, 88, 89, 90, 91, 92, 93, 94, 95, 96, 97, 98, 99, 100, 101, 102, 103, 104, 105, 106, 107, 108, 109, 110, 111, 112, 14, 113, 114, 115, 116, 117, 118, 119, 120, 121, 122, 123, 124, 125, 126, 127, 128, 129, 130, 131, 132, 133, 134, 135, 136, 137, 138, 139, 140, 141, 142, 143, 144, 145, 146, 147, 148, 149, 150, 151, 152, 153, 154, 155, 156, 157, 158, 159, 160, 161, 162, 163, 164, 165, 166, 167, 168, 169, 170, 171, 172, 173, 174, 175, 176, 177, 178, 179, 180, 181, 182, 183, 184, 185, 186, 187, 188, 189, 190, 278, 279, 280, 281, 282, 283, 284, 269, 270, 271, 272, 273, 274, 275, 276, 277, 285, 286, 287, 288] (by decide +kernel) (by decide +kernel))) (goodIn_sub (fun _ h => List.mem_append_left _ (List.mem_append_left _ (List.mem_append_right _ h))) (by decide +kernel))) (goodIn_sub (fun _ h => List.mem_append_left _ (List.mem_append_right _ h)) (by decide +kernel))
set_option maxRecDepth 20000 in
theorem gL_law_L_isTold : GoodIn wsL_law (va_wsS RL 138 yL_isTold wsL_isTold) := goodIn_app (goodIn_of _ (by decide +kernel)) ggL_law_L_isTold
set_option maxRecDepth 20000 in
theorem ggL_law_L_keeps : GoodIn wsL_law wsL_keeps := goodIn_ca (goodIn_ca (goodIn_hd (i := 197) (by rfl) (by rfl) (goodIn_r _ [198, 114, 115, 19, 116, 199, 200, 201, 96, 202, 203, 204, 2, 205, 206, 207, 113, 208, 40, 11, 209, 210, 12, 89, 101, 102, 103, 104, 105, 106, 107, 108, 211, 212, 213, 214, 8, 9, 215, 216, 217, 218, 219, 220, 221, 222, 223, 224, 88, 225, 13, 49, 80, 81, 82, 83, 169, 170, 171, 172, 226, 227, 228, 229, 230, 231, 232, 233, 234, 235, 236, 237, 238, 239, 240, 10, 241, 242, 243, 244, 245, 246, 247, 177, 36, 37, 38, 39, 248, 249, 250, 251, 14, 252, 253, 254, 255, 256, 257, 258, 65, 16, 15, 259, 260, 109, 110, 111, 112, 84, 85, 86, 87, 261, 262, 263, 264, 265, 266, 267, 268, 182, 183, 184, 185, 90, 91, 92, 50, 51, 52, 269, 270, 271, 272, 273, 274, 275, 276, 277, 278, 279, 280, 281, 282, 283, 284, 285, 286, 287, 288] (by decide +kernel) (by decide +kernel))) (goodIn_sub (fun _ h => List.mem_append_right _ h) (by decide +kernel))) (goodIn_sub (fun _ h => List.mem_append_left _ (List.mem_append_right _ h)) (by decide +kernel))
set_option maxRecDepth 20000 in
theorem gL_law_L_keeps : GoodIn wsL_law (va_wsS RL 146 yL_keeps wsL_keeps) := goodIn_app (goodIn_of _ (by decide +kernel)) ggL_law_L_keeps
end
section
/-! the numbers, the environment, calls that leave the heap as it was -/
/-- a row's number, or -1: 0 is none, r + 1 is row r -/
def eN : Nat → Int32
  | 0 => -1
  | r + 1 => nI r
/-- a reference to a row, or null -/
def rfN (ra : Nat → Nat) : Nat → Option Nat
  | 0 => none
  | r + 1 => some (ra r)
def uN (f : Nat → Nat) (i v : Nat) : Nat → Nat := fun j => if j = i then v else f j
theorem uN_s {f : Nat → Nat} {i v : Nat} : uN f i v i = v := by simp [uN]
theorem uN_n {f : Nat → Nat} {i v j : Nat} (h : j ≠ i) : uN f i v j = f j := by simp [uN, h]
theorem uN_upd {f : Nat → Nat} {i v : Nat} : upd (fun j => nI (f j)) i (nI v) = fun j => nI (uN f i v j) := by
  funext j
  by_cases h : j = i
  · subst h; rw [pk_us, uN_s]
  · rw [pk_un h, uN_n h]
/-- an Int32 in a range of numbers -/
def rg (x : Int32) (lo hi : Nat) : Prop := nI lo ≤ x ∧ x ≤ nI hi
theorem rg_of {x : Int32} {lo hi : Nat} (hl : lo < 2 ^ 31) (hh : hi < 2 ^ 31) (h : rg x lo hi) : ∃ n : Nat, lo ≤ n ∧ n ≤ hi ∧ x = nI n := by
  obtain ⟨h1, h2⟩ := h
  rw [Int32.le_iff_toInt_le, nI_toInt hl] at h1
  rw [Int32.le_iff_toInt_le, nI_toInt hh] at h2
  refine ⟨x.toInt.toNat, by omega, by omega, ?_⟩
  apply Int32.toInt_inj.mp
  rw [nI_toInt (by omega)]
  omega
theorem rg_iff {n lo hi : Nat} (hn : n < 2 ^ 31) (hl : lo < 2 ^ 31) (hh : hi < 2 ^ 31) : rg (nI n) lo hi ↔ lo ≤ n ∧ n ≤ hi := by
  unfold rg
  rw [nI_leI hl hn, nI_leI hn hh]
theorem eN_eq {a b : Nat} (ha : a < 2 ^ 31) (hb : b < 2 ^ 31) : eN a = eN b ↔ a = b := by
  cases a with
  | zero => cases b with
    | zero => simp
    | succ b =>
      refine ⟨fun h => ?_, fun h => by omega⟩
      have h2 : (-1 : Int32).toInt = (nI b).toInt := congrArg Int32.toInt h
      rw [nI_toInt (by omega)] at h2
      have h3 : (-1 : Int32).toInt = -1 := by decide
      omega
  | succ a => cases b with
    | zero =>
      refine ⟨fun h => ?_, fun h => by omega⟩
      have h2 : (nI a).toInt = (-1 : Int32).toInt := congrArg Int32.toInt h
      rw [nI_toInt (by omega)] at h2
      have h3 : (-1 : Int32).toInt = -1 := by decide
      omega
    | succ b =>
      show nI a = nI b ↔ _
      rw [nI_eq (by omega) (by omega)]
      omega
theorem eN_none {a : Nat} (ha : a < 2 ^ 31) : eN a = -1 ↔ a = 0 := eN_eq (b := 0) ha (by decide)
abbrev nIAE : String := "java/lang/IllegalArgumentException"
abbrev nISE : String := "java/lang/IllegalStateException"
abbrev nIOB : String := "java/lang/IndexOutOfBoundsException"
/-- words of the tables that a throw and a catch rest on -/
def eWs : List Cond := [.declares (Bundle.initS "java/lang/RuntimeException"), .declares (Bundle.initS "java/lang/Exception"), .declares (Bundle.initS Bundle.tN), .castable nIAE nIAE, .castable nISE nISE, .castable nIOB nIOB]
theorem eWs_t : ∀ w ∈ eWs, w.onTables = true := by decide +kernel
theorem eWs_warm {s U : State} (hW : s.WarmedH U.vm) (h : ∀ w ∈ eWs, va_Nw w s) : ∀ w ∈ eWs, va_Nw w U := by
  intro w hw
  have h1 := h w hw
  simp only [eWs, List.mem_cons, List.not_mem_nil, or_false] at hw
  rcases hw with rfl | rfl | rfl | rfl | rfl | rfl
  · exact va_Nw.warmD hW h1
  · exact va_Nw.warmD hW h1
  · exact va_Nw.warmD hW h1
  · exact va_Nw.warmC hW h1
  · exact va_Nw.warmC hW h1
  · exact va_Nw.warmC hW h1
/-- what every method is told: the classes, the texts of the throws, the statics of Throwable; nothing below lo is ours -/
def eE (D : va_G) (cI cR cS : ClassId) (lo : Nat) (U : State) (H : Heap) : Prop :=
  (va_K D vwCl [(cI, .int), (cR, .object RX0), (cS, .object RX1)] U ∧
  ((∃ a, vk_R RX2 49 "there are 200 rows" a U) ∧ (∃ a, vk_R RX2 64 "now would be above 10000" a U) ∧ (∃ a, vk_R RX2 117 "there are 200 servings" a U) ∧ (∃ a, vk_R RX2 144 "an argument is out of range" a U) ∧ (∃ a, vk_R RX2 149 "there is no such row" a U) ∧ (∃ a, vk_R RX2 152 "there is no such serving" a U) ∧ (∀ w ∈ eWs, va_Nw w U) ∧ va_Nc nISE nIAE U)) ∧
  vx_Zq Bundle.tN "UNASSIGNED_STACK" Bundle.steD (fun q => lo ≤ q) U H ∧ vx_Zq Bundle.tN "SUPPRESSED_SENTINEL" Bundle.listD (fun q => lo ≤ q) U H
theorem eE.same {D : va_G} {cI cR cS : ClassId} {lo : Nat} {U V : State} {H : Heap} (hv : V.vm = U.vm) (h : eE D cI cR cS lo U H) : eE D cI cR cS lo V H := by
  have ha : U.vm.Alike V.vm := by rw [hv]; exact Vm.Alike.refl _
  obtain ⟨⟨h1, ⟨a1, g1⟩, ⟨a2, g2⟩, ⟨a3, g3⟩, ⟨a4, g4⟩, ⟨a5, g5⟩, ⟨a6, g6⟩, g7, g8⟩, h2, h3⟩ := h
  exact ⟨⟨va_K.moved ha h1, ⟨a1, g1.same hv⟩, ⟨a2, g2.same hv⟩, ⟨a3, g3.same hv⟩, ⟨a4, g4.same hv⟩, ⟨a5, g5.same hv⟩, ⟨a6, g6.same hv⟩, fun w hw => va_Nw.same (eWs_t w hw) hv.symm (g7 w hw), g8.moved ha⟩, h2.moved ha, h3.moved ha⟩
theorem eE.to {D : va_G} {cI cR cS : ClassId} {lo : Nat} {s U : State} {H : Heap} {locs : List Loc} (h : eE D cI cR cS lo s s.heap) (hS : va_S (fun q => lo ≤ q) s.heap H locs) (hU : U.heap = H) (hW : s.WarmedH U.vm) : eE D cI cR cS lo U U.heap := by
  have ha : s.vm.Alike U.vm := hW.alike
  obtain ⟨⟨h1, ⟨a1, g1⟩, ⟨a2, g2⟩, ⟨a3, g3⟩, ⟨a4, g4⟩, ⟨a5, g5⟩, ⟨a6, g6⟩, g7, g8⟩, h2, h3⟩ := h
  rw [hU]
  exact ⟨⟨va_K.moved ha h1, ⟨a1, g1.warm hW⟩, ⟨a2, g2.warm hW⟩, ⟨a3, g3.warm hW⟩, ⟨a4, g4.warm hW⟩, ⟨a5, g5.warm hW⟩, ⟨a6, g6.warm hW⟩, eWs_warm hW g7, g8.moved ha⟩, (h2.moved ha).kept hS.2.1, (h3.moved ha).kept hS.2.1⟩
/-- a contract's start: the arguments, the environment, what the heap holds -/
def ePc (D : va_G) (cI cR cS : ClassId) (lo : Nat) (av : List Value) (G : Heap → Prop) : Array Value → State → Prop := va_Pc av (fun U => eE D cI cR cS lo U U.heap ∧ G U.heap)
theorem ePc_blind {D : va_G} {cI cR cS : ClassId} {lo : Nat} {av : List Value} {G : Heap → Prop} : FrameBlind (ePc D cI cR cS lo av G) := by
  intro a U g mk h
  exact ⟨h.1, eE.same (U := U) (V := U.calling g mk a) rfl h.2.1, h.2.2⟩
theorem ePreS {D : va_G} {cI cR cS : ClassId} {lo : Nat} {s : State} {H : Heap} {locs : List Loc} {G : Heap → Prop} {As : List Value} (hE : eE D cI cR cS lo s s.heap) (hS : va_S (fun q => lo ≤ q) s.heap H locs) (hG : G H) : PreS s H (ePc D cI cR cS lo As G) As :=
  ⟨ePc_blind, fun U hU hW => ⟨rfl, hE.to hS hU hW, by rw [hU]; exact hG⟩⟩
theorem ePreV {D : va_G} {cI cR cS : ClassId} {lo : Nat} {s : State} {H : Heap} {locs : List Loc} {G : Heap → Prop} {As : List Value} {b ci k : Nat} {fs : List Value} {C : String} {T : u_T} {N : Nat} {ws : va_W} (hE : eE D cI cR cS lo s s.heap) (hS : va_S (fun q => lo ≤ q) s.heap H locs) (hP : va_P D vwCl ws H) (hk : ws[k]? = some (b, .inr (ci, fs))) (hc : vwCl[ci]? = some (C, T, N)) (hG : G H) : PreV s H C b (ePc D cI cR cS lo (.ref b :: As) G) As :=
  ⟨ePc_blind, va_recv hE.1.1 hP hc hk, fun U hU hW => ⟨rfl, hE.to hS hU hW, by rw [hU]; exact hG⟩⟩
/-- a throw: the class's name as X says, no old cell changed -/
def eX (X : String → Prop) : String → State → State → Prop := fun E st t => X E ∧ va_F (fun _ => False) st t
section NVR
variable {p : Program} {l : Launch} {e : Env} {R : Room} {s : State} {m : MethodId} {args : Array Value} {below : List Frame} {meth : Method} {c : Code} {H : Heap} {locs : List Loc} {cells slots : Nat} {Q : State → Prop}
variable {cc : ByteArray} {pc : Nat} {ls : Array Slot} {rest st0 : List Value} {a : Array Value} {mc ms : Nat} {D : va_G} {cl : List vw_C} {tys : List (ClassId × FieldType)} {ws : va_W} {A : Nat → Prop} {H0 : Heap}
theorem nx_calli {post : Int32 → Prop} {X : String → Prop} (hr : vx_Run p l e R s m args below meth c H locs cells slots mc ms (F0 m pc ls st0) rest (vp_Si post a) (eX X) (fun _ => False))
    (kx : ∀ (E : String) (ce : Cell) (q9 : Addr) (H1 : Heap), X E → H.size ≤ H1.size → (∀ q : Nat, q < H.size → H1[q]? = H[q]?) → H1[q9]? = some ce → ce.vm = .none → s.vm.findClass E = some ce.cls → vx_W p l e R s m args below meth c H1 locs (cells + mc) (slots + ms) Q (F0 m pc ls rest) q9)
    (kk : ∀ r : Int32, post r → W p l e R s m args below meth c H locs (cells + mc) (slots + ms) Q (F0 m (pc + 3) ls (.int r :: rest))) : W p l e R s m args below meth c H locs cells slots Q (F0 m pc ls st0) := by
  intro T hT X
  rcases hr T hT X with ⟨v, st₀, t, T', L, h0, X', hL, e1, e2, ⟨r, hv, hp, hh⟩, st⟩ | ⟨q, st₀, t, T', L, E, ce, h0, X', hL, e1, e2, ⟨hx, hF⟩, hce, hcv, hcl, st⟩
  · cases hv
    obtain ⟨t2, a1, b1⟩ := kk r hp T' (by rw [e1, hh, h0]) (Stand.forget X' (fun q h => (hL q h).elim))
    exact ⟨t2, st t2 a1, b1⟩
  · obtain ⟨hz, hk⟩ := hF
    rw [h0] at hz hk
    obtain ⟨t2, a1, b1⟩ := kx E ce q T'.heap hx (by rw [e1]; exact hz) (fun q h => by rw [e1]; exact hk q h (fun z => z)) (by rw [e1]; exact hce) hcv hcl T' rfl (Stand.forget X' (fun q h => (hL q h).elim))
    exact ⟨t2, st.trans a1, b1⟩
theorem nx_callv {post : Unit → Prop} {X : String → Prop} (hr : vx_Run p l e R s m args below meth c H locs cells slots mc ms (F0 m pc ls st0) rest (va_Sv post a) (eX X) (fun _ => False))
    (kx : ∀ (E : String) (ce : Cell) (q9 : Addr) (H1 : Heap), X E → H.size ≤ H1.size → (∀ q : Nat, q < H.size → H1[q]? = H[q]?) → H1[q9]? = some ce → ce.vm = .none → s.vm.findClass E = some ce.cls → vx_W p l e R s m args below meth c H1 locs (cells + mc) (slots + ms) Q (F0 m pc ls rest) q9)
    (kk : post () → W p l e R s m args below meth c H locs (cells + mc) (slots + ms) Q (F0 m (pc + 3) ls rest)) : W p l e R s m args below meth c H locs cells slots Q (F0 m pc ls st0) := by
  intro T hT X
  rcases hr T hT X with ⟨v, st₀, t, T', L, h0, X', hL, e1, e2, ⟨hv, hp, hh⟩, st⟩ | ⟨q, st₀, t, T', L, E, ce, h0, X', hL, e1, e2, ⟨hx, hF⟩, hce, hcv, hcl, st⟩
  · cases hv
    obtain ⟨t2, a1, b1⟩ := kk hp T' (by rw [e1, hh, h0]) (Stand.forget X' (fun q h => (hL q h).elim))
    exact ⟨t2, st t2 a1, b1⟩
  · obtain ⟨hz, hk⟩ := hF
    rw [h0] at hz hk
    obtain ⟨t2, a1, b1⟩ := kx E ce q T'.heap hx (by rw [e1]; exact hz) (fun q h => by rw [e1]; exact hk q h (fun z => z)) (by rw [e1]; exact hce) hcv hcl T' rfl (Stand.forget X' (fun q h => (hL q h).elim))
    exact ⟨t2, st.trans a1, b1⟩
/-- a reference comes back (a row, a serving), the heap stays -/
def eSr (post : Nat → Prop) : Array Value → State → Outcome → State → Prop := fun _ st oc t => ∃ q : Nat, oc = .returned (some (.ref q)) ∧ post q ∧ t.heap = st.heap
theorem nx_callr {post : Nat → Prop} {X : String → Prop} (hr : vx_Run p l e R s m args below meth c H locs cells slots mc ms (F0 m pc ls st0) rest (eSr post a) (eX X) (fun _ => False))
    (kx : ∀ (E : String) (ce : Cell) (q9 : Addr) (H1 : Heap), X E → H.size ≤ H1.size → (∀ q : Nat, q < H.size → H1[q]? = H[q]?) → H1[q9]? = some ce → ce.vm = .none → s.vm.findClass E = some ce.cls → vx_W p l e R s m args below meth c H1 locs (cells + mc) (slots + ms) Q (F0 m pc ls rest) q9)
    (kk : ∀ q : Nat, post q → W p l e R s m args below meth c H locs (cells + mc) (slots + ms) Q (F0 m (pc + 3) ls (.ref q :: rest))) : W p l e R s m args below meth c H locs cells slots Q (F0 m pc ls st0) := by
  intro T hT X
  rcases hr T hT X with ⟨v, st₀, t, T', L, h0, X', hL, e1, e2, ⟨r, hv, hp, hh⟩, st⟩ | ⟨q, st₀, t, T', L, E, ce, h0, X', hL, e1, e2, ⟨hx, hF⟩, hce, hcv, hcl, st⟩
  · cases hv
    obtain ⟨t2, a1, b1⟩ := kk r hp T' (by rw [e1, hh, h0]) (Stand.forget X' (fun q h => (hL q h).elim))
    exact ⟨t2, st t2 a1, b1⟩
  · obtain ⟨hz, hk⟩ := hF
    rw [h0] at hz hk
    obtain ⟨t2, a1, b1⟩ := kx E ce q T'.heap hx (by rw [e1]; exact hz) (fun q h => by rw [e1]; exact hk q h (fun z => z)) (by rw [e1]; exact hce) hcv hcl T' rfl (Stand.forget X' (fun q h => (hL q h).elim))
    exact ⟨t2, st.trans a1, b1⟩
/-- a call that writes: what it answers and what it leaves, or a throw before any write -/
theorem nx_callw {S : Type} {post : Int32 → S → Prop} {B : S → State → Prop} {A1 : Nat → Prop} {X : String → Prop} {free : Addr → Prop} (hr : vx_Run p l e R s m args below meth c H locs cells slots mc ms (F0 m pc ls st0) rest (va_Qi post B A1 a) (eX X) free) (hS : va_S A H0 H locs) (hA : ∀ q, q < H.size → A1 q → A q) (hf : ∀ q, free q → A q)
    (kx : ∀ (E : String) (ce : Cell) (q9 : Addr) (H1 : Heap) (locs1 : List Loc), X E → H.size ≤ H1.size → (∀ q : Nat, q < H.size → H1[q]? = H[q]?) → va_S A H0 H1 locs1 → H1[q9]? = some ce → ce.vm = .none → s.vm.findClass E = some ce.cls → vx_W p l e R s m args below meth c H1 locs1 (cells + mc) (slots + ms) Q (F0 m pc ls rest) q9)
    (kk : ∀ (r : Int32) (u : S) (t : State) (H1 : Heap) (locs1 : List Loc), t.heap = H1 → s.vm.Alike t.vm → post r u → B u t → H.size ≤ H1.size → (∀ q : Nat, q < H.size → ¬ A1 q → H1[q]? = H[q]?) → va_S A H0 H1 locs1 → W p l e R s m args below meth c H1 locs1 (cells + mc) (slots + ms) Q (F0 m (pc + 3) ls (.int r :: rest))) : W p l e R s m args below meth c H locs cells slots Q (F0 m pc ls st0) := by
  intro T hT X
  rcases hr T hT X with ⟨v, st₀, t, T', L, h0, X', hL, e1, e2, ⟨⟨r, u, hv, hp, hb⟩, hF⟩, st⟩ | ⟨q, st₀, t, T', L, E, ce, h0, X', hL, e1, e2, ⟨hx, hF⟩, hce, hcv, hcl, st⟩
  · cases hv
    obtain ⟨k1, k2, k3⟩ := vx_keep h0 e1 hS hA hf hL hF
    obtain ⟨t2, a1, b1⟩ := kk r u t T'.heap (locs ++ L) e1.symm (by rw [← e2]; exact X'.warmed.alike) hp hb k1 k2 k3 T' rfl X'
    exact ⟨t2, st t2 a1, b1⟩
  · obtain ⟨k1, k2, k3⟩ := vx_keep (A1 := fun _ => False) h0 e1 hS (fun q _ h => h.elim) hf hL hF
    obtain ⟨t2, a1, b1⟩ := kx E ce q T'.heap (locs ++ L) hx k1 (fun q h => k2 q h (fun z => z)) k3 (by rw [e1]; exact hce) hcv hcl T' rfl X'
    exact ⟨t2, st.trans a1, b1⟩
-- numbers
theorem nv_iadd {x y : Nat} (hx : p.tables.exec = Jvm.exec) (hb : c.code = cc) (hdg : decode cc pc = .ok (.iadd, 1)) (k : W p l e R s m args below meth c H locs cells slots Q (F0 m (pc + 1) ls (.int (nI (x + y)) :: rest))) : W p l e R s m args below meth c H locs cells slots Q (F0 m pc ls (.int (nI y) :: .int (nI x) :: rest)) := lv_iadd hx hb hdg (by rw [nI_add]; exact k)
theorem nv_isub {x y : Nat} (hx : p.tables.exec = Jvm.exec) (hb : c.code = cc) (hdg : decode cc pc = .ok (.isub, 1)) (h : y ≤ x) (k : W p l e R s m args below meth c H locs cells slots Q (F0 m (pc + 1) ls (.int (nI (x - y)) :: rest))) : W p l e R s m args below meth c H locs cells slots Q (F0 m pc ls (.int (nI y) :: .int (nI x) :: rest)) := lv_isub hx hb hdg (by rw [pk_sub h]; exact k)
theorem nv_imul {x y : Nat} (hx : p.tables.exec = Jvm.exec) (hb : c.code = cc) (hdg : decode cc pc = .ok (.imul, 1)) (k : W p l e R s m args below meth c H locs cells slots Q (F0 m (pc + 1) ls (.int (nI (x * y)) :: rest))) : W p l e R s m args below meth c H locs cells slots Q (F0 m pc ls (.int (nI y) :: .int (nI x) :: rest)) := lv_imul hx hb hdg (by rw [pk_mul]; exact k)
theorem nv_idiv {x y : Nat} (hx : p.tables.exec = Jvm.exec) (hb : c.code = cc) (hdg : decode cc pc = .ok (.idiv, 1)) (h1 : x < 2 ^ 31) (h0 : 0 < y) (h2 : y < 2 ^ 31) (k : W p l e R s m args below meth c H locs cells slots Q (F0 m (pc + 1) ls (.int (nI (x / y)) :: rest))) : W p l e R s m args below meth c H locs cells slots Q (F0 m pc ls (.int (nI y) :: .int (nI x) :: rest)) := lv_idiv hx hb hdg (nI_ne0 h0 h2) (by rw [pk_div h1 h0 h2]; exact k)
theorem nv_eq {x y : Nat} {off : Int} {tgt : Nat} (hx : p.tables.exec = Jvm.exec) (hb : c.code = cc) (hdg : decode cc pc = .ok (.if_icmp .eq off, 3)) (ht : (pc : Int) + off = (tgt : Int)) (h1 : x < 2 ^ 31) (h2 : y < 2 ^ 31)
    (kt : x = y → W p l e R s m args below meth c H locs cells slots Q (F0 m tgt ls rest)) (kf : ¬ x = y → W p l e R s m args below meth c H locs cells slots Q (F0 m (pc + 3) ls rest)) : W p l e R s m args below meth c H locs cells slots Q (F0 m pc ls (.int (nI y) :: .int (nI x) :: rest)) := lv_icmp_eq hx hb hdg ht (fun h => kt ((nI_eq h1 h2).mp h)) (fun h => kf (fun z => h ((nI_eq h1 h2).mpr z)))
theorem nv_ne {x y : Nat} {off : Int} {tgt : Nat} (hx : p.tables.exec = Jvm.exec) (hb : c.code = cc) (hdg : decode cc pc = .ok (.if_icmp .ne off, 3)) (ht : (pc : Int) + off = (tgt : Int)) (h1 : x < 2 ^ 31) (h2 : y < 2 ^ 31)
    (kt : ¬ x = y → W p l e R s m args below meth c H locs cells slots Q (F0 m tgt ls rest)) (kf : x = y → W p l e R s m args below meth c H locs cells slots Q (F0 m (pc + 3) ls rest)) : W p l e R s m args below meth c H locs cells slots Q (F0 m pc ls (.int (nI y) :: .int (nI x) :: rest)) := lv_icmp_ne hx hb hdg ht (fun h => kt (fun z => h ((nI_eq h1 h2).mpr z))) (fun h => kf ((nI_eq h1 h2).mp h))
theorem nv_lt {x y : Nat} {off : Int} {tgt : Nat} (hx : p.tables.exec = Jvm.exec) (hb : c.code = cc) (hdg : decode cc pc = .ok (.if_icmp .lt off, 3)) (ht : (pc : Int) + off = (tgt : Int)) (h1 : x < 2 ^ 31) (h2 : y < 2 ^ 31)
    (kt : x < y → W p l e R s m args below meth c H locs cells slots Q (F0 m tgt ls rest)) (kf : ¬ x < y → W p l e R s m args below meth c H locs cells slots Q (F0 m (pc + 3) ls rest)) : W p l e R s m args below meth c H locs cells slots Q (F0 m pc ls (.int (nI y) :: .int (nI x) :: rest)) := lv_icmp_lt hx hb hdg ht (fun h => kt ((nI_ltI h1 h2).mp h)) (fun h => kf (fun z => h ((nI_ltI h1 h2).mpr z)))
theorem nv_ge {x y : Nat} {off : Int} {tgt : Nat} (hx : p.tables.exec = Jvm.exec) (hb : c.code = cc) (hdg : decode cc pc = .ok (.if_icmp .ge off, 3)) (ht : (pc : Int) + off = (tgt : Int)) (h1 : x < 2 ^ 31) (h2 : y < 2 ^ 31)
    (kt : y ≤ x → W p l e R s m args below meth c H locs cells slots Q (F0 m tgt ls rest)) (kf : ¬ y ≤ x → W p l e R s m args below meth c H locs cells slots Q (F0 m (pc + 3) ls rest)) : W p l e R s m args below meth c H locs cells slots Q (F0 m pc ls (.int (nI y) :: .int (nI x) :: rest)) := lv_icmp_ge hx hb hdg ht (fun h => kt ((nI_leI h2 h1).mp h)) (fun h => kf (fun z => h ((nI_leI h2 h1).mpr z)))
theorem nv_gt {x y : Nat} {off : Int} {tgt : Nat} (hx : p.tables.exec = Jvm.exec) (hb : c.code = cc) (hdg : decode cc pc = .ok (.if_icmp .gt off, 3)) (ht : (pc : Int) + off = (tgt : Int)) (h1 : x < 2 ^ 31) (h2 : y < 2 ^ 31)
    (kt : y < x → W p l e R s m args below meth c H locs cells slots Q (F0 m tgt ls rest)) (kf : ¬ y < x → W p l e R s m args below meth c H locs cells slots Q (F0 m (pc + 3) ls rest)) : W p l e R s m args below meth c H locs cells slots Q (F0 m pc ls (.int (nI y) :: .int (nI x) :: rest)) := lv_icmp_gt hx hb hdg ht (fun h => kt ((nI_ltI h2 h1).mp h)) (fun h => kf (fun z => h ((nI_ltI h2 h1).mpr z)))
theorem nv_le {x y : Nat} {off : Int} {tgt : Nat} (hx : p.tables.exec = Jvm.exec) (hb : c.code = cc) (hdg : decode cc pc = .ok (.if_icmp .le off, 3)) (ht : (pc : Int) + off = (tgt : Int)) (h1 : x < 2 ^ 31) (h2 : y < 2 ^ 31)
    (kt : x ≤ y → W p l e R s m args below meth c H locs cells slots Q (F0 m tgt ls rest)) (kf : ¬ x ≤ y → W p l e R s m args below meth c H locs cells slots Q (F0 m (pc + 3) ls rest)) : W p l e R s m args below meth c H locs cells slots Q (F0 m pc ls (.int (nI y) :: .int (nI x) :: rest)) := lv_icmp_le hx hb hdg ht (fun h => kt ((nI_leI h1 h2).mp h)) (fun h => kf (fun z => h ((nI_leI h1 h2).mpr z)))
theorem nv_iald {q0 t0 q : Nat} {cA : ClassId} {n i : Nat} (f : Nat → Nat) (hx : p.tables.exec = Jvm.exec) (hb : c.code = cc) (hK : va_K D cl tys s) (hP : va_P D cl ws H) (ha : ws[q0]? = some (q, .inl (cA, n, .inl (fun j => nI (f j))))) (ht : tys[t0]? = some (cA, .int)) (hin : i < n) (hn : n < 2 ^ 31) (hdg : decode cc pc = .ok (.iaload, 1))
    (kk : W p l e R s m args below meth c H locs cells slots Q (F0 m (pc + 1) ls (.int (nI (f i)) :: rest))) : W p l e R s m args below meth c H locs cells slots Q (F0 m pc ls (.int (nI i) :: .ref q :: rest)) :=
  va_iald hx hb hK hP q0 t0 ha ht (vp_in_nI hin hn) hdg (by rw [nI_clamp (Nat.lt_trans hin hn)]; exact kk)
theorem nv_iast {q0 t0 q : Nat} {cA : ClassId} {n i v : Nat} (f : Nat → Nat) (hx : p.tables.exec = Jvm.exec) (hb : c.code = cc) (hK : va_K D cl tys s) (hP : va_P D cl ws H) (hD : va_D A ws) (hS : va_S A H0 H locs) (ha : ws[q0]? = some (q, .inl (cA, n, .inl (fun j => nI (f j))))) (ht : tys[t0]? = some (cA, .int)) (hin : i < n) (hn : n < 2 ^ 31) (hdg : decode cc pc = .ok (.iastore, 1))
    (kk : ∀ (H1 : Heap) (locs1 : List Loc), va_P D cl (ws.set q0 (q, .inl (cA, n, .inl (fun j => nI (uN f i v j))))) H1 → va_D A (ws.set q0 (q, .inl (cA, n, .inl (fun j => nI (uN f i v j))))) → va_S A H0 H1 locs1 → W p l e R s m args below meth c H1 locs1 cells slots Q (F0 m (pc + 1) ls rest)) : W p l e R s m args below meth c H locs cells slots Q (F0 m pc ls (.int (nI v) :: .int (nI i) :: .ref q :: rest)) :=
  va_iast hx hb hK hP hD hS q0 t0 ha ht (vp_in_nI hin hn) hdg (fun H1 locs1 h1 h2 h3 => by
    rw [nI_clamp (Nat.lt_trans hin hn), uN_upd] at h1 h2
    exact kk H1 locs1 h1 h2 h3)
end NVR
end
section
/-! throws: the words of the three exceptions, and a throw out of a method that has changed nothing -/
abbrev nmX : List String := ["java/lang/RuntimeException", "java/lang/Exception"]
theorem bad_iae : ∀ w ∈ (vx_atS RX2 146 nIAE nmX).filter (fun w => !goodWord w), w ∈ eWs := by decide +kernel
theorem ot_iae : ∀ w ∈ Cond.classLink RX2 142 nIAE :: Cond.initialized nIAE :: vx_atS RX2 146 nIAE nmX, vx_ot w = true := by decide +kernel
theorem bad_ise : ∀ w ∈ (vx_atS RX2 51 nISE nmX).filter (fun w => !goodWord w), w ∈ eWs := by decide +kernel
theorem ot_ise : ∀ w ∈ Cond.classLink RX2 47 nISE :: Cond.initialized nISE :: vx_atS RX2 51 nISE nmX, vx_ot w = true := by decide +kernel
theorem bad_iob : ∀ w ∈ (vx_atS RX2 151 nIOB nmX).filter (fun w => !goodWord w), w ∈ eWs := by decide +kernel
theorem ot_iob : ∀ w ∈ Cond.classLink RX2 147 nIOB :: Cond.initialized nIOB :: vx_atS RX2 151 nIOB nmX, vx_ot w = true := by decide +kernel
theorem nx_throw {p : Program} {l : Launch} {e : Env} {R : Room} {s : State} {m : MethodId} {args : Array Value} {below : List Frame} {meth : Method} {c : Code} {cells slots : Nat} {cc : ByteArray} {pc : Nat} {ls : Array Slot} {nL mc ms : Nat} {D : va_G} {cI cR cS : ClassId} {lo : Nat} {cls text : String} {ik is ic : Nat} {Ts : List Cond} {Qc : Array Value → State → Outcome → State → Prop} {X : String → Prop} {lv : List (Nat × Value)} {free : Addr → Prop}
    (hx : p.tables.exec = Jvm.exec) (hb : c.code = cc) (hfl : l.stackTraces = false) (hown : s.vm.findClass RX2 = some m.cls) (hml : c.maxLocals = nL) (hnt : ∀ x ∈ c.exceptionTable.toList, False) (hlocks : meth.locks = false) (hts : ∀ w ∈ Ts, w.before args s = true)
    (hcls : Bundle.fit cls = true) (hinl : ∀ w ∈ Cond.classLink RX2 ik cls :: Cond.initialized cls :: (vx_atS RX2 ic cls nmX).filter goodWord, w ∈ Ts)
    (hbad : ∀ w ∈ (vx_atS RX2 ic cls nmX).filter (fun w => !goodWord w), w ∈ eWs) (hot : ∀ w ∈ Cond.classLink RX2 ik cls :: Cond.initialized cls :: vx_atS RX2 ic cls nmX, vx_ot w = true)
    (hE : eE D cI cR cS lo s s.heap) (hstr : ∃ sa, vk_R RX2 is text sa s) (hl : lv_has ls nL lv)
    (d0 : decode cc pc = .ok (.new ik, 3)) (d3 : decode cc (pc + 3) = .ok (.dup, 1)) (d4 : decode cc (pc + 4) = .ok (.ldc is, 2)) (d6 : decode cc (pc + 6) = .ok (.invokespecial ic, 3)) (d9 : decode cc (pc + 9) = .ok (.athrow, 1))
    (hRf : 5 < R.frames) (hRl : 82 ≤ R.locals) (hRc : cells + 1 ≤ R.cells) (hRs : slots + 6 ≤ R.slots) (hX : X cls) (hc : cells + 1 ≤ mc) (hs : slots + 6 ≤ ms) :
    W p l e R s m args below meth c s.heap [] cells slots (vx_MQ below Qc (eX X) args s mc ms free) (F0 m pc ls []) := by
  obtain ⟨sa, hstr⟩ := hstr
  have hq := hE
  obtain ⟨⟨-, -, -, -, -, -, -, g7, -⟩, h2, h3⟩ := hq
  refine vx_throwS (A := fun q => lo ≤ q) (names := nmX) hx hb hfl hown hcls (by decide +kernel) (hts _ (hinl _ List.mem_cons_self)) (hts _ (hinl _ (List.mem_cons_of_mem _ List.mem_cons_self))) hstr ?_ hot h2 h3 va_S.rf (hl.1.trans hml.symm) d0 d3 d4 d6 d9 (fun x hx => (hnt x hx).elim) hRf hRl hRc hRs hlocks ?_ (fun z hz => absurd hz List.not_mem_nil) hc hs
  · exact vx_hat (fun w hw => hts w (hinl w (List.mem_cons_of_mem _ (List.mem_cons_of_mem _ hw)))) hbad (fun w hw => va_Nw.use (eWs_t w hw) (g7 w hw))
  · intro t _ h1 h2
    exact ⟨hX, h1, fun q hq _ => h2 q hq⟩
end
section
/-! what a state of the store is: a table of numbers; what each call answers over it; how class and reference hold it -/
abbrev St : Type := Nat → Nat → Nat
def s_now (σ : St) : Nat := σ 0 0
def s_n (σ : St) : Nat := σ 1 0
def s_tk (σ : St) : Nat := σ 2 0
def s_k (σ : St) : Nat := σ 3 0
def s_lt (σ : St) : Nat → Nat := σ 4
def s_pr (σ : St) : Nat → Nat := σ 5
def s_ev (σ : St) : Nat → Nat := σ 6
def s_ar (σ : St) : Nat → Nat := σ 7
def s_vl (σ : St) : Nat → Nat := σ 8
/-- the online copy: 0 is none, r + 1 is row r -/
def s_cp (σ : St) : Nat → Nat := σ 9
def s_sp (σ : St) : Nat → Nat := σ 10
def s_sa (σ : St) : Nat → Nat := σ 11
/-- what was served: 0 is none, r + 1 is row r -/
def s_sv (σ : St) : Nat → Nat := σ 12
def setS (σ : St) (k : Nat) (g : Nat → Nat) : St := fun j => if j = k then g else σ j
/-- what always holds of it -/
def sI (σ : St) : Prop := s_now σ ≤ 10000 ∧ s_n σ ≤ 200 ∧ s_tk σ ≤ s_n σ ∧ s_k σ ≤ 200 ∧ (∀ f, f < 6 → s_lt σ f ≤ 10000) ∧
  (∀ r, r < s_n σ → s_pr σ r < 60 ∧ s_ev σ r ≤ s_ar σ r ∧ s_ar σ r ≤ s_now σ ∧ s_vl σ r ≤ 100000) ∧
  (∀ q, q < 60 → s_cp σ q ≤ s_tk σ ∧ ∀ r, s_cp σ q = r + 1 → s_pr σ r = q) ∧
  (∀ i, i < s_k σ → s_sp σ i < 60 ∧ s_sa σ i ≤ s_now σ ∧ s_sv σ i ≤ s_n σ)
-- the answers
def q_best (σ : St) (q t k : Nat) : Nat → Nat
  | 0 => 0
  | r + 1 => if s_pr σ r = q ∧ s_ev σ r ≤ t ∧ s_ar σ r ≤ k ∧ (q_best σ q t k r = 0 ∨ s_ev σ (q_best σ q t k r - 1) ≤ s_ev σ r) then r + 1 else q_best σ q t k r
def q_fr (σ : St) (o t : Nat) : Nat := if o = 0 then 0 else if t ≤ s_ev σ (o - 1) + s_lt σ (s_pr σ (o - 1) / 10) then o else 0
def q_join (σ : St) (q t k : Nat) : Nat := q_fr σ (q_best σ q t k (s_n σ)) t
def q_sum (σ : St) (q a b : Nat) : Nat → Nat
  | 0 => 0
  | r + 1 => q_sum σ q a b r + (if s_pr σ r = q ∧ a ≤ s_ev σ r ∧ s_ev σ r ≤ b then s_vl σ r else 0)
def q_fst (σ : St) (len row : Nat) : Nat → Nat
  | 0 => 1
  | r + 1 => if q_fst σ len row r = 1 ∧ (¬ s_pr σ r = s_pr σ row ∨ ¬ s_ev σ r / len = s_ev σ row / len) then 1 else 0
def q_its (σ : St) (q len r : Nat) : Nat := if s_pr σ r = q ∧ q_fst σ len r r = 1 then q_sum σ q (s_ev σ r / len * len) (s_ev σ r / len * len + len - 1) (s_n σ) else 0
def q_gt (σ : St) (q len : Nat) : Nat → Nat
  | 0 => 0
  | r + 1 => if q_gt σ q len r < q_its σ q len r then q_its σ q len r else q_gt σ q len r
def q_tl (σ : St) (q len : Nat) : Nat → Nat
  | 0 => 0
  | r + 1 => q_tl σ q len r + (if s_pr σ r = q ∧ q_fst σ len r r = 1 then 1 else 0)
/-- at how many of the first j times the answer was revised -/
def q_rev (σ : St) (q T : Nat) : Nat → Nat
  | 0 => 0
  | j + 1 => q_rev σ q T j + (if q_join σ q (j * T) (s_now σ) = q_join σ q (j * T) (j * T) then 0 else 1)
def q_skew (σ : St) : Nat → Nat
  | 0 => 0
  | q + 1 => q_skew σ q + (if q_fr σ (s_cp σ q) (s_now σ) = q_join σ q (s_now σ) (s_now σ) then 0 else 1)
def q_uns (σ : St) : Nat → Nat
  | 0 => 0
  | i + 1 => q_uns σ i + (if s_sv σ i = q_join σ (s_sp σ i) (s_sa σ i) (s_sa σ i) then 0 else 1)
/-- one change is taken in -/
def q_take1 (σ : St) : St :=
  setS (if s_cp σ (s_pr σ (s_tk σ)) = 0 ∨ s_ev σ (s_cp σ (s_pr σ (s_tk σ)) - 1) ≤ s_ev σ (s_tk σ) then setS σ 9 (uN (s_cp σ) (s_pr σ (s_tk σ)) (s_tk σ + 1)) else σ) 2 (fun _ => s_tk σ + 1)
def q_take (σ : St) : Nat → St
  | 0 => σ
  | c + 1 => q_take1 (q_take σ c)
-- the class's chains
def ins (ev : Nat → Nat) (x : Nat) : List Nat → List Nat
  | [] => [x]
  | y :: l => if ev x < ev y then y :: ins ev x l else x :: y :: l
def chn (σ : St) (q : Nat) : Nat → List Nat
  | 0 => []
  | r + 1 => if s_pr σ r = q then ins (s_ev σ) r (chn σ q r) else chn σ q r
/-- the links from o on are the rows of the list -/
def seg (ol : Nat → Nat) : Nat → List Nat → Prop
  | o, [] => o = 0
  | o, x :: l => o = x + 1 ∧ seg ol (ol x) l
def xI (σ : St) (hd ol : Nat → Nat) : Prop := ∀ q, q < 60 → seg ol (hd q) (chn σ q (s_n σ))
-- the worlds
abbrev rowE (ra ol : Nat → Nat) (σ : St) (i : Nat) : Nat × va_E := (ra i, .inr (0, [.int (nI i), .int (nI (s_pr σ i / 10)), .int (nI (s_pr σ i % 10)), .int (nI (s_ev σ i)), .int (nI (s_ar σ i)), .int (nI (s_vl σ i)), va_rf (rfN ra (ol i))]))
abbrev srvE (sb : Nat → Nat) (σ : St) (i : Nat) : Nat × va_E := (sb i, .inr (1, [.int (nI (s_sp σ i / 10)), .int (nI (s_sp σ i % 10)), .int (nI (s_sa σ i)), .int (eN (s_sv σ i))]))
abbrev xW (cI cR cS : ClassId) (x0 : Nat) (b ra sb hd ol : Nat → Nat) (σ : St) : va_W :=
  (x0, .inr (2, [.int (nI (s_now σ)), .ref (b 0), .ref (b 1), .int (nI (s_n σ)), .ref (b 2), .ref (b 3), .int (nI (s_tk σ)), .ref (b 4), .int (nI (s_k σ))])) ::
  (b 0, .inl (cI, 6, .inl (fun j => nI (s_lt σ j)))) :: (b 1, .inl (cR, 200, .inr (.inr (.inr (.inr (fun j => if j < s_n σ then some (ra j) else none)))))) ::
  (b 2, .inl (cR, 60, .inr (.inr (.inr (.inr (fun j => rfN ra (hd j))))))) :: (b 3, .inl (cR, 60, .inr (.inr (.inr (.inr (fun j => rfN ra (s_cp σ j))))))) ::
  (b 4, .inl (cS, 200, .inr (.inr (.inr (.inr (fun j => if j < s_k σ then some (sb j) else none)))))) ::
  ((List.range (s_n σ)).map (rowE ra ol σ) ++ (List.range (s_k σ)).map (srvE sb σ))
theorem xRow {D : va_G} {cI cR cS : ClassId} {x0 : Nat} {b ra sb hd ol : Nat → Nat} {σ : St} {H : Heap} (h : va_P D vwCl (xW cI cR cS x0 b ra sb hd ol σ) H) {i : Nat} (hi : i < s_n σ) : va_P D vwCl [rowE ra ol σ i] H := by
  intro k q hk
  cases k with
  | zero =>
    cases hk
    refine h (i + 6) _ ?_
    show ((List.range (s_n σ)).map (rowE ra ol σ) ++ (List.range (s_k σ)).map (srvE sb σ))[i]? = _
    rw [List.getElem?_append_left (by simpa using hi)]
    simp [hi]
  | succ k => simp at hk
theorem xSrv {D : va_G} {cI cR cS : ClassId} {x0 : Nat} {b ra sb hd ol : Nat → Nat} {σ : St} {H : Heap} (h : va_P D vwCl (xW cI cR cS x0 b ra sb hd ol σ) H) {i : Nat} (hi : i < s_k σ) : va_P D vwCl [srvE sb σ i] H := by
  intro k q hk
  cases k with
  | zero =>
    cases hk
    refine h (s_n σ + i + 6) _ ?_
    show ((List.range (s_n σ)).map (rowE ra ol σ) ++ (List.range (s_k σ)).map (srvE sb σ))[s_n σ + i]? = _
    rw [List.getElem?_append_right (by simp)]
    simp [hi]
  | succ k => simp at hk
theorem mem_ins {ev : Nat → Nat} {x y : Nat} {l : List Nat} : y ∈ ins ev x l ↔ y = x ∨ y ∈ l := by
  induction l with
  | nil => simp [ins]
  | cons z l ih =>
    simp only [ins]
    split <;> simp [ih] <;> constructor <;> (intro h; rcases h with h | h | h <;> simp [h])
theorem mem_chn {σ : St} {q y : Nat} : ∀ {n : Nat}, y ∈ chn σ q n ↔ y < n ∧ s_pr σ y = q := by
  intro n
  induction n with
  | zero => simp [chn]
  | succ n ih =>
    simp only [chn]
    split
    · rename_i h
      rw [mem_ins, ih]
      constructor
      · rintro (rfl | ⟨h1, h2⟩)
        · exact ⟨Nat.lt_succ_self _, h⟩
        · exact ⟨by omega, h2⟩
      · rintro ⟨h1, h2⟩
        by_cases e : y = n
        · exact Or.inl e
        · exact Or.inr ⟨by omega, h2⟩
    · rename_i h
      rw [ih]
      constructor
      · rintro ⟨h1, h2⟩
        exact ⟨by omega, h2⟩
      · rintro ⟨h1, h2⟩
        refine ⟨?_, h2⟩
        by_cases e : y = n
        · subst e; exact absurd h2 h
        · omega
end
section
/-! more rows over numbers and over -1 for none -/
theorem nv_inc (e k : Nat) : nI e + Int32.ofInt (k : Int) = nI (e + k) := by
  rw [← nI_add]
  rfl
theorem eN_pos {v : Nat} (h : ¬ v = 0) : eN v = nI (v - 1) := by
  cases v with
  | zero => exact absurd rfl h
  | succ v => rfl
theorem eN_upd {f : Nat → Nat} {i v : Nat} : upd (fun j => eN (f j)) i (eN v) = fun j => eN (uN f i v j) := by
  funext j
  by_cases h : j = i
  · subst h; rw [pk_us, uN_s]
  · rw [pk_un h, uN_n h]
theorem fr_cmp {x t y : Nat} (hx : x < 2 ^ 30) (ht : t < 2 ^ 30) (hy : y < 2 ^ 30) : nI t - nI y ≤ nI x ↔ t ≤ x + y := by
  rw [Int32.le_iff_toInt_le, pk_sub_toInt ht hy, nI_toInt (by omega)]
  omega
theorem va_S.mono {A B : Nat → Prop} {H0 H : Heap} {locs : List Loc} (h : va_S A H0 H locs) (hAB : ∀ q, A q → B q) : va_S B H0 H locs :=
  ⟨h.1, fun q hq hn => h.2.1 q hq (fun z => hn (hAB q z)), fun z hz => hAB _ (h.2.2 z hz)⟩
theorem eA_lo {ws : va_W} {lo sz : Nat} (hD : va_D (fun q => lo ≤ q) ws) (hlo : lo ≤ sz) : ∀ q, va_A ws sz q → lo ≤ q := by
  intro q h
  rcases h with ⟨k, e, h⟩ | h
  · exact hD.2 k (q, e) h
  · exact Nat.le_trans hlo h
theorem va_D_fst {A : Nat → Prop} {ws ws' : va_W} (hD : va_D A ws) (h : ws.map Prod.fst = ws'.map Prod.fst) : va_D A ws' := by
  have key : ∀ (k : Nat) (q : Nat × va_E), ws'[k]? = some q → ∃ q', ws[k]? = some q' ∧ q'.1 = q.1 := by
    intro k q hk
    have h1 : (ws'.map Prod.fst)[k]? = some q.1 := by rw [List.getElem?_map, hk]; rfl
    rw [← h, List.getElem?_map] at h1
    cases h2 : ws[k]? with
    | none => rw [h2] at h1; cases h1
    | some q' => rw [h2] at h1; exact ⟨q', rfl, Option.some.inj h1⟩
  refine ⟨fun i j x y hx hy hxy => ?_, fun k q hk => ?_⟩
  · obtain ⟨x', h1, e1⟩ := key i x hx
    obtain ⟨y', h2, e2⟩ := key j y hy
    exact hD.1 i j x' y' h1 h2 (by rw [e1, e2]; exact hxy)
  · obtain ⟨q', h1, e1⟩ := key k q hk
    rw [← e1]
    exact hD.2 k q' h1
section NVS
variable {p : Program} {l : Launch} {e : Env} {R : Room} {s : State} {m : MethodId} {args : Array Value} {below : List Frame} {meth : Method} {c : Code} {H : Heap} {locs : List Loc} {cells slots : Nat} {Q : State → Prop}
variable {cc : ByteArray} {pc : Nat} {ls : Array Slot} {rest st0 : List Value} {a : Array Value} {mc ms : Nat} {D : va_G} {cl : List vw_C} {tys : List (ClassId × FieldType)} {ws : va_W} {A : Nat → Prop} {H0 : Heap}
theorem nv_if_eq {x : Nat} {off : Int} {tgt : Nat} (hx : p.tables.exec = Jvm.exec) (hb : c.code = cc) (hdg : decode cc pc = .ok (.ifCond .eq off, 3)) (ht : (pc : Int) + off = (tgt : Int)) (h1 : x < 2 ^ 31)
    (kt : x = 0 → W p l e R s m args below meth c H locs cells slots Q (F0 m tgt ls rest)) (kf : ¬ x = 0 → W p l e R s m args below meth c H locs cells slots Q (F0 m (pc + 3) ls rest)) : W p l e R s m args below meth c H locs cells slots Q (F0 m pc ls (.int (nI x) :: rest)) := lv_if_eq hx hb hdg ht (fun h => kt ((nI_eq h1 (b := 0) (by decide)).mp h)) (fun h => kf (fun z => h ((nI_eq h1 (b := 0) (by decide)).mpr z)))
theorem nv_if_ne {x : Nat} {off : Int} {tgt : Nat} (hx : p.tables.exec = Jvm.exec) (hb : c.code = cc) (hdg : decode cc pc = .ok (.ifCond .ne off, 3)) (ht : (pc : Int) + off = (tgt : Int)) (h1 : x < 2 ^ 31)
    (kt : ¬ x = 0 → W p l e R s m args below meth c H locs cells slots Q (F0 m tgt ls rest)) (kf : x = 0 → W p l e R s m args below meth c H locs cells slots Q (F0 m (pc + 3) ls rest)) : W p l e R s m args below meth c H locs cells slots Q (F0 m pc ls (.int (nI x) :: rest)) := lv_if_ne hx hb hdg ht (fun h => kt (fun z => h ((nI_eq h1 (b := 0) (by decide)).mpr z))) (fun h => kf ((nI_eq h1 (b := 0) (by decide)).mp h))
theorem nv_if_le {x : Nat} {off : Int} {tgt : Nat} (hx : p.tables.exec = Jvm.exec) (hb : c.code = cc) (hdg : decode cc pc = .ok (.ifCond .le off, 3)) (ht : (pc : Int) + off = (tgt : Int)) (h1 : x < 2 ^ 31)
    (kt : x ≤ 0 → W p l e R s m args below meth c H locs cells slots Q (F0 m tgt ls rest)) (kf : ¬ x ≤ 0 → W p l e R s m args below meth c H locs cells slots Q (F0 m (pc + 3) ls rest)) : W p l e R s m args below meth c H locs cells slots Q (F0 m pc ls (.int (nI x) :: rest)) := lv_if_le hx hb hdg ht (fun h => kt ((nI_leI h1 (b := 0) (by decide)).mp h)) (fun h => kf (fun z => h ((nI_leI h1 (b := 0) (by decide)).mpr z)))
theorem nv_eqNone {x : Nat} {off : Int} {tgt : Nat} (hx : p.tables.exec = Jvm.exec) (hb : c.code = cc) (hdg : decode cc pc = .ok (.if_icmp .eq off, 3)) (ht : (pc : Int) + off = (tgt : Int)) (h1 : x < 2 ^ 31)
    (kt : x = 0 → W p l e R s m args below meth c H locs cells slots Q (F0 m tgt ls rest)) (kf : ¬ x = 0 → W p l e R s m args below meth c H locs cells slots Q (F0 m (pc + 3) ls rest)) : W p l e R s m args below meth c H locs cells slots Q (F0 m pc ls (.int (-1) :: .int (eN x) :: rest)) := lv_icmp_eq hx hb hdg ht (fun h => kt ((eN_none h1).mp h)) (fun h => kf (fun z => h ((eN_none h1).mpr z)))
theorem nv_neNone {x : Nat} {off : Int} {tgt : Nat} (hx : p.tables.exec = Jvm.exec) (hb : c.code = cc) (hdg : decode cc pc = .ok (.if_icmp .ne off, 3)) (ht : (pc : Int) + off = (tgt : Int)) (h1 : x < 2 ^ 31)
    (kt : ¬ x = 0 → W p l e R s m args below meth c H locs cells slots Q (F0 m tgt ls rest)) (kf : x = 0 → W p l e R s m args below meth c H locs cells slots Q (F0 m (pc + 3) ls rest)) : W p l e R s m args below meth c H locs cells slots Q (F0 m pc ls (.int (-1) :: .int (eN x) :: rest)) := lv_icmp_ne hx hb hdg ht (fun h => kt (fun z => h ((eN_none h1).mpr z))) (fun h => kf ((eN_none h1).mp h))
theorem nv_eqN {x y : Nat} {off : Int} {tgt : Nat} (hx : p.tables.exec = Jvm.exec) (hb : c.code = cc) (hdg : decode cc pc = .ok (.if_icmp .eq off, 3)) (ht : (pc : Int) + off = (tgt : Int)) (h1 : x < 2 ^ 31) (h2 : y < 2 ^ 31)
    (kt : x = y → W p l e R s m args below meth c H locs cells slots Q (F0 m tgt ls rest)) (kf : ¬ x = y → W p l e R s m args below meth c H locs cells slots Q (F0 m (pc + 3) ls rest)) : W p l e R s m args below meth c H locs cells slots Q (F0 m pc ls (.int (eN y) :: .int (eN x) :: rest)) := lv_icmp_eq hx hb hdg ht (fun h => kt ((eN_eq h1 h2).mp h)) (fun h => kf (fun z => h ((eN_eq h1 h2).mpr z)))
theorem nv_neN {x y : Nat} {off : Int} {tgt : Nat} (hx : p.tables.exec = Jvm.exec) (hb : c.code = cc) (hdg : decode cc pc = .ok (.if_icmp .ne off, 3)) (ht : (pc : Int) + off = (tgt : Int)) (h1 : x < 2 ^ 31) (h2 : y < 2 ^ 31)
    (kt : ¬ x = y → W p l e R s m args below meth c H locs cells slots Q (F0 m tgt ls rest)) (kf : x = y → W p l e R s m args below meth c H locs cells slots Q (F0 m (pc + 3) ls rest)) : W p l e R s m args below meth c H locs cells slots Q (F0 m pc ls (.int (eN y) :: .int (eN x) :: rest)) := lv_icmp_ne hx hb hdg ht (fun h => kt (fun z => h ((eN_eq h1 h2).mpr z))) (fun h => kf ((eN_eq h1 h2).mp h))
theorem nv_eald {q0 t0 q : Nat} {cA : ClassId} {n i : Nat} (f : Nat → Nat) (hx : p.tables.exec = Jvm.exec) (hb : c.code = cc) (hK : va_K D cl tys s) (hP : va_P D cl ws H) (ha : ws[q0]? = some (q, .inl (cA, n, .inl (fun j => eN (f j))))) (ht : tys[t0]? = some (cA, .int)) (hin : i < n) (hn : n < 2 ^ 31) (hdg : decode cc pc = .ok (.iaload, 1))
    (kk : W p l e R s m args below meth c H locs cells slots Q (F0 m (pc + 1) ls (.int (eN (f i)) :: rest))) : W p l e R s m args below meth c H locs cells slots Q (F0 m pc ls (.int (nI i) :: .ref q :: rest)) :=
  va_iald hx hb hK hP q0 t0 ha ht (vp_in_nI hin hn) hdg (by rw [nI_clamp (Nat.lt_trans hin hn)]; exact kk)
theorem nv_east {q0 t0 q : Nat} {cA : ClassId} {n i v : Nat} (f : Nat → Nat) (hx : p.tables.exec = Jvm.exec) (hb : c.code = cc) (hK : va_K D cl tys s) (hP : va_P D cl ws H) (hD : va_D A ws) (hS : va_S A H0 H locs) (ha : ws[q0]? = some (q, .inl (cA, n, .inl (fun j => eN (f j))))) (ht : tys[t0]? = some (cA, .int)) (hin : i < n) (hn : n < 2 ^ 31) (hdg : decode cc pc = .ok (.iastore, 1))
    (kk : ∀ (H1 : Heap) (locs1 : List Loc), va_P D cl (ws.set q0 (q, .inl (cA, n, .inl (fun j => eN (uN f i v j))))) H1 → va_D A (ws.set q0 (q, .inl (cA, n, .inl (fun j => eN (uN f i v j))))) → va_S A H0 H1 locs1 → W p l e R s m args below meth c H1 locs1 cells slots Q (F0 m (pc + 1) ls rest)) : W p l e R s m args below meth c H locs cells slots Q (F0 m pc ls (.int (eN v) :: .int (nI i) :: .ref q :: rest)) :=
  va_iast hx hb hK hP hD hS q0 t0 ha ht (vp_in_nI hin hn) hdg (fun H1 locs1 h1 h2 h3 => by
    rw [nI_clamp (Nat.lt_trans hin hn), eN_upd] at h1 h2
    exact kk H1 locs1 h1 h2 h3)
theorem nx_callRr {post : Option Nat → Prop} (hr : CallRun p l e R s m args below meth c H locs cells slots 0 0 (F0 m pc ls st0) rest (va_Sq post a) (fun _ => False))
    (kk : ∀ r : Option Nat, post r → W p l e R s m args below meth c H locs cells slots Q (F0 m (pc + 3) ls (va_rf r :: rest))) : W p l e R s m args below meth c H locs cells slots Q (F0 m pc ls st0) := va_csq hr kk
end NVS
end
section
/-! what each call answers, when it throws, what it leaves: over the arguments as they come -/
def cl (x : Int32) : Nat := x.toNatClampNeg
theorem cl_nI {n : Nat} (h : n < 2 ^ 31) : cl (nI n) = n := nI_clamp h
def okP (f e : Int32) : Prop := rg f 0 5 ∧ rg e 0 9
def plN (f e : Int32) : Nat := 10 * cl f + cl e
/-- a number of one of n things -/
def ri (x : Int32) (n : Nat) : Prop := nI 0 ≤ x ∧ x < nI n
theorem ri_of {x : Int32} {n : Nat} (hn : n < 2 ^ 31) (h : ri x n) : ∃ i : Nat, i < n ∧ x = nI i := by
  obtain ⟨h1, h2⟩ := h
  rw [Int32.le_iff_toInt_le, nI_toInt (by decide)] at h1
  rw [Int32.lt_iff_toInt_lt, nI_toInt hn] at h2
  refine ⟨x.toInt.toNat, by omega, ?_⟩
  apply Int32.toInt_inj.mp
  rw [nI_toInt (by omega)]
  omega
theorem ri_in {x : Int32} {n : Nat} (hn : n < 2 ^ 30) : (nI 0 ≤ x ∧ x ≤ nI n - nI 1) ↔ ri x n := by
  unfold ri
  rw [Int32.le_iff_toInt_le (y := nI n - nI 1), Int32.lt_iff_toInt_lt, pk_sub_toInt hn (by decide), nI_toInt (n := n) (by omega)]
  constructor <;> (rintro ⟨h1, h2⟩; exact ⟨h1, by omega⟩)
theorem eN_sub (v : Nat) : nI v - nI 1 = eN v := by
  cases v with
  | zero => decide
  | succ v => exact pk_sub (by omega)
def R3 (ok1 ok2 : Prop) (σ σ' : St) (an r : Int32) (u : Nat × St) : Prop := (ok1 ∧ ok2 ∧ u = (0, σ') ∧ r = an) ∨ (¬ ok1 ∧ u = (1, σ)) ∨ (ok1 ∧ ¬ ok2 ∧ u = (2, σ))
def g_arrive (σ : St) (q v w : Nat) : St := setS (setS (setS (setS (setS σ 1 (fun _ => s_n σ + 1)) 5 (uN (s_pr σ) (s_n σ) q)) 6 (uN (s_ev σ) (s_n σ) v)) 7 (uN (s_ar σ) (s_n σ) (s_now σ))) 8 (uN (s_vl σ) (s_n σ) w)
def g_pass (σ : St) (t : Nat) : St := setS σ 0 (fun _ => s_now σ + t)
def g_setL (σ : St) (f t : Nat) : St := setS σ 4 (uN (s_lt σ) f t)
def g_serve (σ : St) (q : Nat) : St := setS (setS (setS (setS σ 3 (fun _ => s_k σ + 1)) 10 (uN (s_sp σ) (s_k σ) q)) 11 (uN (s_sa σ) (s_k σ) (s_now σ))) 12 (uN (s_sv σ) (s_k σ) (q_fr σ (s_cp σ q) (s_now σ)))
/-- how many changes a take of c takes in -/
def g_m (σ : St) (c : Nat) : Nat := min c (s_n σ - s_tk σ)
theorem q_sum_le {σ : St} (hI : sI σ) (q x y : Nat) : ∀ r : Nat, r ≤ s_n σ → q_sum σ q x y r ≤ 100000 * r
  | 0, _ => Nat.zero_le _
  | r + 1, h => by
    have h1 := q_sum_le hI q x y r (by omega)
    have h2 := (hI.2.2.2.2.2.1 r (by omega)).2.2.2
    simp only [q_sum]
    split <;> omega
theorem q_its_le {σ : St} (hI : sI σ) (q len r : Nat) : q_its σ q len r ≤ 20000000 := by
  have h1 := hI.2.1
  simp only [q_its]
  split
  · have := q_sum_le hI q (s_ev σ r / len * len) (s_ev σ r / len * len + len - 1) (s_n σ) (Nat.le_refl _)
    omega
  · omega
theorem q_gt_le {σ : St} (hI : sI σ) (q len : Nat) : ∀ r : Nat, q_gt σ q len r ≤ 20000000
  | 0 => Nat.zero_le _
  | r + 1 => by
    have h1 := q_gt_le hI q len r
    have h2 := q_its_le hI q len r
    simp only [q_gt]
    split <;> omega
theorem rev_j {T j now : Nat} (h1 : j * T ≤ now + T) (h2 : now < j * T) : j = now / T + 1 := by
  cases j with
  | zero => omega
  | succ i =>
    rw [Nat.succ_mul] at h1
    rw [Nat.div_eq_of_lt_le (k := i) (by omega) (by omega)]
section NVT
variable {p : Program} {l : Launch} {e : Env} {R : Room} {s : State} {m : MethodId} {args : Array Value} {below : List Frame} {meth : Method} {c : Code} {H : Heap} {locs : List Loc} {cells slots : Nat} {Q : State → Prop}
variable {cc : ByteArray} {pc : Nat} {ls : Array Slot} {rest : List Value}
theorem nv_isubN {x : Nat} (hx : p.tables.exec = Jvm.exec) (hb : c.code = cc) (hdg : decode cc pc = .ok (.isub, 1)) (k : W p l e R s m args below meth c H locs cells slots Q (F0 m (pc + 1) ls (.int (eN x) :: rest))) : W p l e R s m args below meth c H locs cells slots Q (F0 m pc ls (.int (nI 1) :: .int (nI x) :: rest)) := lv_isub hx hb hdg (by rw [eN_sub]; exact k)
end NVT
end
section
/-! facts of the state that the class's methods rest on -/
theorem q_best_le (σ : St) (q t k : Nat) : ∀ r : Nat, q_best σ q t k r ≤ r
  | 0 => Nat.le_refl _
  | r + 1 => by
    have h := q_best_le σ q t k r
    simp only [q_best]
    split <;> omega
theorem q_fst_01 (σ : St) (len row : Nat) : ∀ r : Nat, q_fst σ len row r = 0 ∨ q_fst σ len row r = 1
  | 0 => Or.inr rfl
  | r + 1 => by
    simp only [q_fst]
    split
    · exact Or.inr rfl
    · exact Or.inl rfl
theorem nz_01 {v : Nat} (h : v = 0 ∨ v = 1) : narrow .boolean (.int (nI v)) = .int (nI v) := by
  rcases h with rfl | rfl <;> decide +kernel
theorem q_join_le (σ : St) (q t k : Nat) : q_join σ q t k ≤ s_n σ := by
  have h := q_best_le σ q t k (s_n σ)
  simp only [q_join, q_fr]
  split
  · omega
  · split <;> omega
def q_snd (σ : St) (i : Nat) : Nat := if s_sv σ i = q_join σ (s_sp σ i) (s_sa σ i) (s_sa σ i) then 1 else 0
theorem q_fr_le {σ : St} {o t n : Nat} (h : o ≤ n) : q_fr σ o t ≤ n := by
  simp only [q_fr]
  split
  · omega
  · split <;> omega
theorem tk1_k (σ : St) (k : Nat) (h9 : ¬ k = 9) (h2 : ¬ k = 2) : q_take1 σ k = σ k := by
  unfold q_take1
  show (if k = 2 then _ else _) = _
  rw [if_neg h2]
  split
  · show (if k = 9 then _ else _) = _
    rw [if_neg h9]
  · rfl
theorem tk1_0 (σ : St) : s_now (q_take1 σ) = s_now σ := congrFun (tk1_k σ 0 (by decide) (by decide)) 0
theorem tk1_1 (σ : St) : s_n (q_take1 σ) = s_n σ := congrFun (tk1_k σ 1 (by decide) (by decide)) 0
theorem tk1_2 (σ : St) : s_tk (q_take1 σ) = s_tk σ + 1 := rfl
theorem tk1_3 (σ : St) : s_k (q_take1 σ) = s_k σ := congrFun (tk1_k σ 3 (by decide) (by decide)) 0
theorem tk1_4 (σ : St) : s_lt (q_take1 σ) = s_lt σ := tk1_k σ 4 (by decide) (by decide)
theorem tk1_5 (σ : St) : s_pr (q_take1 σ) = s_pr σ := tk1_k σ 5 (by decide) (by decide)
theorem tk1_6 (σ : St) : s_ev (q_take1 σ) = s_ev σ := tk1_k σ 6 (by decide) (by decide)
theorem tk1_7 (σ : St) : s_ar (q_take1 σ) = s_ar σ := tk1_k σ 7 (by decide) (by decide)
theorem tk1_8 (σ : St) : s_vl (q_take1 σ) = s_vl σ := tk1_k σ 8 (by decide) (by decide)
theorem tk1_10 (σ : St) : s_sp (q_take1 σ) = s_sp σ := tk1_k σ 10 (by decide) (by decide)
theorem tk1_11 (σ : St) : s_sa (q_take1 σ) = s_sa σ := tk1_k σ 11 (by decide) (by decide)
theorem tk1_12 (σ : St) : s_sv (q_take1 σ) = s_sv σ := tk1_k σ 12 (by decide) (by decide)
theorem tk1_9 (σ : St) : s_cp (q_take1 σ) = if s_cp σ (s_pr σ (s_tk σ)) = 0 ∨ s_ev σ (s_cp σ (s_pr σ (s_tk σ)) - 1) ≤ s_ev σ (s_tk σ) then uN (s_cp σ) (s_pr σ (s_tk σ)) (s_tk σ + 1) else s_cp σ := by
  by_cases h : s_cp σ (s_pr σ (s_tk σ)) = 0 ∨ s_ev σ (s_cp σ (s_pr σ (s_tk σ)) - 1) ≤ s_ev σ (s_tk σ)
  · rw [if_pos h]; unfold q_take1; rw [if_pos h]; rfl
  · rw [if_neg h]; unfold q_take1; rw [if_neg h]; rfl
theorem sI_take1 {σ : St} (hI : sI σ) (h : s_tk σ < s_n σ) : sI (q_take1 σ) := by
  obtain ⟨i_now, i_n, i_tk, i_k, i_lt, i_row, i_cp, i_srv⟩ := hI
  unfold sI
  rw [tk1_0, tk1_1, tk1_2, tk1_3, tk1_4, tk1_5, tk1_6, tk1_7, tk1_8, tk1_9, tk1_10, tk1_11, tk1_12]
  refine ⟨i_now, i_n, h, i_k, i_lt, i_row, ?_, i_srv⟩
  intro q hq
  obtain ⟨h1, h2⟩ := i_cp q hq
  split
  · by_cases e : q = s_pr σ (s_tk σ)
    · subst e
      rw [uN_s]
      exact ⟨Nat.le_refl _, fun r hr => by
        have : r = s_tk σ := by omega
        rw [this]⟩
    · rw [uN_n e]
      exact ⟨by omega, h2⟩
  · exact ⟨by omega, h2⟩
theorem sI_half {σ : St} {q n x : Nat} (h : ∀ i, i < s_k σ → s_sp σ i < 60 ∧ s_sa σ i ≤ n ∧ s_sv σ i ≤ s_n σ) : ∀ i, i < s_k σ → uN (s_sp σ) (s_k σ) q i < 60 ∧ uN (s_sa σ) (s_k σ) x i ≤ n ∧ s_sv σ i ≤ s_n σ := by
  intro i hi
  rw [uN_n (by omega), uN_n (by omega)]
  exact h i hi
theorem q_snd_01 (σ : St) (i : Nat) : q_snd σ i = 0 ∨ q_snd σ i = 1 := by
  unfold q_snd
  split
  · exact Or.inr rfl
  · exact Or.inl rfl
end
section
/-! the class's walks over its chains, as functions of lists; rows over references that may be null -/
def c_first (σ : St) (t k : Nat) : List Nat → Nat
  | [] => 0
  | x :: l => if s_ev σ x ≤ t ∧ s_ar σ x ≤ k then x + 1 else c_first σ t k l
def c_sum (σ : St) (a b : Nat) : List Nat → Nat
  | [] => 0
  | x :: l => (if a ≤ s_ev σ x ∧ s_ev σ x ≤ b then s_vl σ x else 0) + c_sum σ a b l
/-- what stands in the running sum behind a row -/
def c_s (σ : St) (len x s tl : Nat) : Nat := (if s_ev σ x / len + 1 = tl then s else 0) + s_vl σ x
def c_gt (σ : St) (len : Nat) : List Nat → Nat → Nat → Nat → Nat
  | [], g, _, _ => g
  | x :: l, g, s, tl => c_gt σ len l (max g (c_s σ len x s tl)) (c_s σ len x s tl) (s_ev σ x / len + 1)
def c_tl (σ : St) (len : Nat) : List Nat → Nat → Nat
  | [], _ => 0
  | x :: l, tl => (if s_ev σ x / len + 1 = tl then 0 else 1) + c_tl σ len l (s_ev σ x / len + 1)
def c_mb (e T : Nat) : Nat := (e + T - 1) / T
def c_ru (σ : St) (f x later : Nat) : Nat := min (min later (s_ev σ x + s_lt σ f + 1)) (s_ar σ x)
def c_rev (σ : St) (f T : Nat) : List Nat → Nat → Nat
  | [], _ => 0
  | x :: l, later => (if s_ev σ x < c_ru σ f x later then c_mb (c_ru σ f x later) T - c_mb (s_ev σ x) T else 0) + c_rev σ f T l (s_ev σ x)
section NVC
variable {p : Program} {l : Launch} {e : Env} {R : Room} {s : State} {m : MethodId} {args : Array Value} {below : List Frame} {meth : Method} {c : Code} {H : Heap} {locs : List Loc} {cells slots : Nat} {Q : State → Prop}
variable {cc : ByteArray} {pc : Nat} {ls : Array Slot} {rest st0 : List Value} {a : Array Value} {mc ms : Nat} {D : va_G} {cl : List vw_C} {tys : List (ClassId × FieldType)} {ws : va_W} {A : Nat → Prop} {H0 : Heap}
theorem nq_astore_n {o : Option Nat} {k : Fin 4} {i nL : Nat} {lv lv' : List (Nat × Value)} (hx : p.tables.exec = Jvm.exec) (hb : c.code = cc) (hdg : decode cc pc = .ok (.astore_n k, 1)) (hi : (k : Nat) = i) (h : lv_has ls nL lv) (hn : i < nL) (hl : (i, va_rf o) :: lv.filter (fun q => !(q.1 == i) && !(q.1 + 1 == i && q.2.category == 2)) = lv')
    (kk : ∀ ls' : Array Slot, lv_has ls' nL lv' → W p l e R s m args below meth c H locs cells slots Q (F0 m (pc + 1) ls' rest)) : W p l e R s m args below meth c H locs cells slots Q (F0 m pc ls (va_rf o :: rest)) := by
  cases o with
  | none => exact lv_astore_nN hx hb hdg hi h hn hl kk
  | some q => exact lv_astore_n hx hb hdg hi h hn hl kk
theorem nq_astore {o : Option Nat} {i nL : Nat} {lv lv' : List (Nat × Value)} (hx : p.tables.exec = Jvm.exec) (hb : c.code = cc) (hdg : decode cc pc = .ok (.astore i, 2)) (h : lv_has ls nL lv) (hn : i < nL) (hl : (i, va_rf o) :: lv.filter (fun q => !(q.1 == i) && !(q.1 + 1 == i && q.2.category == 2)) = lv')
    (kk : ∀ ls' : Array Slot, lv_has ls' nL lv' → W p l e R s m args below meth c H locs cells slots Q (F0 m (pc + 2) ls' rest)) : W p l e R s m args below meth c H locs cells slots Q (F0 m pc ls (va_rf o :: rest)) := by
  cases o with
  | none => exact lv_astoreN hx hb hdg h hn hl kk
  | some q => exact lv_astore hx hb hdg h hn hl kk
theorem nq_aald {q0 t0 q : Nat} {cA : ClassId} {C : String} {n i : Nat} (f : Nat → Option Nat) (hx : p.tables.exec = Jvm.exec) (hb : c.code = cc) (hK : va_K D cl tys s) (hP : va_P D cl ws H) (ha : ws[q0]? = some (q, .inl (cA, n, .inr (.inr (.inr (.inr f)))))) (ht : tys[t0]? = some (cA, .object C)) (hin : i < n) (hn : n < 2 ^ 31) (hdg : decode cc pc = .ok (.aaload, 1))
    (kk : W p l e R s m args below meth c H locs cells slots Q (F0 m (pc + 1) ls (va_rf (f i) :: rest))) : W p l e R s m args below meth c H locs cells slots Q (F0 m pc ls (.int (nI i) :: .ref q :: rest)) :=
  va_aldq hx hb hK hP q0 t0 ha ht (vp_in_nI hin hn) hdg (by rw [nI_clamp (Nat.lt_trans hin hn)]; exact kk)
theorem nq_aaldP {q0 t0 q : Nat} {cA : ClassId} {C : String} {n i z : Nat} (f : Nat → Nat) (hx : p.tables.exec = Jvm.exec) (hb : c.code = cc) (hK : va_K D cl tys s) (hP : va_P D cl ws H) (ha : ws[q0]? = some (q, .inl (cA, n, .inr (.inr (.inr (.inr (fun j => if j < z then some (f j) else none))))))) (ht : tys[t0]? = some (cA, .object C)) (hin : i < n) (hn : n < 2 ^ 31) (hz : i < z) (hdg : decode cc pc = .ok (.aaload, 1))
    (kk : W p l e R s m args below meth c H locs cells slots Q (F0 m (pc + 1) ls (.ref (f i) :: rest))) : W p l e R s m args below meth c H locs cells slots Q (F0 m pc ls (.int (nI i) :: .ref q :: rest)) :=
  nq_aald _ hx hb hK hP ha ht hin hn hdg (by simp only [if_pos hz]; exact kk)
theorem nv_max {own : String} {index : Nat} {x y : Nat} (hx : p.tables.exec = Jvm.exec) (hb : c.code = cc) (hml : c.maxLocals = ls.size) (hown : s.vm.findClass own = some m.cls) (hlink : (Cond.methodLink own index Lib.Math.max.name).before args s = true) (hstat : (Cond.static Lib.Math.max.name).before args s = true) (hini : (Cond.initialized "java/lang/Math").before args s = true) (hcode : (Cond.code Lib.Math.max.name Lib.Math.max.code 2 (some .int)).before args s = true)
    (hframes : 1 ≤ R.frames) (hlocals : (rest.map fun v => v.category).sum + 13 ≤ R.locals) (hc : cells ≤ R.cells) (hs : slots ≤ R.slots) (h1 : x < 2 ^ 31) (h2 : y < 2 ^ 31) (hdg : decode cc pc = .ok (.invokestatic index, 3))
    (kk : W p l e R s m args below meth c H locs cells slots Q (F0 m (pc + 3) ls (.int (nI (max x y)) :: rest))) : W p l e R s m args below meth c H locs cells slots Q (F0 m pc ls (.int (nI y) :: .int (nI x) :: rest)) :=
  va_mmax hx hb hml hown hlink hstat hini hcode hframes hlocals hc hs hdg (by
    by_cases h : nI x < nI y
    · rw [if_pos h]; rw [nI_ltI h1 h2] at h; rw [Nat.max_eq_right (Nat.le_of_lt h)] at kk; exact kk
    · rw [if_neg h]; rw [nI_ltI h1 h2] at h; rw [Nat.max_eq_left (Nat.not_lt.mp h)] at kk; exact kk)
theorem nv_min {own : String} {index : Nat} {x y : Nat} (hx : p.tables.exec = Jvm.exec) (hb : c.code = cc) (hml : c.maxLocals = ls.size) (hown : s.vm.findClass own = some m.cls) (hlink : (Cond.methodLink own index Lib.Math.min.name).before args s = true) (hstat : (Cond.static Lib.Math.min.name).before args s = true) (hini : (Cond.initialized "java/lang/Math").before args s = true) (hcode : (Cond.code Lib.Math.min.name Lib.Math.min.code 2 (some .int)).before args s = true)
    (hframes : 1 ≤ R.frames) (hlocals : (rest.map fun v => v.category).sum + 13 ≤ R.locals) (hc : cells ≤ R.cells) (hs : slots ≤ R.slots) (h1 : x < 2 ^ 31) (h2 : y < 2 ^ 31) (hdg : decode cc pc = .ok (.invokestatic index, 3))
    (kk : W p l e R s m args below meth c H locs cells slots Q (F0 m (pc + 3) ls (.int (nI (min x y)) :: rest))) : W p l e R s m args below meth c H locs cells slots Q (F0 m pc ls (.int (nI y) :: .int (nI x) :: rest)) :=
  va_mmin hx hb hml hown hlink hstat hini hcode hframes hlocals hc hs hdg (by
    by_cases h : nI y < nI x
    · rw [if_pos h]; rw [nI_ltI h2 h1] at h; rw [Nat.min_eq_right (Nat.le_of_lt h)] at kk; exact kk
    · rw [if_neg h]; rw [nI_ltI h2 h1] at h; rw [Nat.min_eq_left (Nat.not_lt.mp h)] at kk; exact kk)
end NVC
end
section
/-! the chains against the tables: what a walk over a chain finds is what the look through all rows finds -/
/-- events fall, rows differ -/
def srt (σ : St) (l : List Nat) : Prop := l.Pairwise (fun a b => s_ev σ b ≤ s_ev σ a ∧ a ≠ b)
theorem srt_ins {σ : St} {x : Nat} : ∀ {l : List Nat}, srt σ l → x ∉ l → srt σ (ins (s_ev σ) x l)
  | [], _, _ => by simp [ins, srt]
  | y :: l, h, hx => by
    have h1 := List.pairwise_cons.mp h
    have hxy : x ≠ y := fun e => hx (by rw [e]; exact List.mem_cons_self)
    have hxl : x ∉ l := fun e => hx (List.mem_cons_of_mem _ e)
    simp only [ins]
    split
    · rename_i hlt
      refine List.pairwise_cons.mpr ⟨fun z hz => ?_, srt_ins h1.2 hxl⟩
      rcases mem_ins.mp hz with rfl | hz
      · exact ⟨Nat.le_of_lt hlt, fun e => hxy e.symm⟩
      · exact h1.1 z hz
    · rename_i hge
      refine List.pairwise_cons.mpr ⟨fun z hz => ?_, h⟩
      rcases List.mem_cons.mp hz with rfl | hz2
      · exact ⟨Nat.not_lt.mp hge, hxy⟩
      · exact ⟨Nat.le_trans (h1.1 z hz2).1 (Nat.not_lt.mp hge), fun e => hxl (by rw [e]; exact hz2)⟩
theorem srt_chn (σ : St) (q : Nat) : ∀ n : Nat, srt σ (chn σ q n)
  | 0 => List.Pairwise.nil
  | n + 1 => by
    simp only [chn]
    split
    · exact srt_ins (srt_chn σ q n) (fun h => absurd (mem_chn.mp h).1 (Nat.lt_irrefl n))
    · exact srt_chn σ q n
theorem c_first_mem {σ : St} {t k r : Nat} : ∀ {l : List Nat}, c_first σ t k l = r + 1 → r ∈ l ∧ s_ev σ r ≤ t ∧ s_ar σ r ≤ k
  | [], h => by simp [c_first] at h
  | x :: l, h => by
    simp only [c_first] at h
    split at h
    · rename_i hx
      have : x = r := by omega
      subst this
      exact ⟨List.mem_cons_self, hx⟩
    · have := c_first_mem h
      exact ⟨List.mem_cons_of_mem _ this.1, this.2⟩
theorem c_first_ins {σ : St} {t k x : Nat} : ∀ {l : List Nat}, srt σ l → c_first σ t k (ins (s_ev σ) x l) = if s_ev σ x ≤ t ∧ s_ar σ x ≤ k ∧ (c_first σ t k l = 0 ∨ s_ev σ (c_first σ t k l - 1) ≤ s_ev σ x) then x + 1 else c_first σ t k l
  | [], _ => by
    simp only [ins, c_first]
    by_cases h : s_ev σ x ≤ t ∧ s_ar σ x ≤ k
    · rw [if_pos h, if_pos ⟨h.1, h.2, Or.inl trivial⟩]
    · rw [if_neg h, if_neg (fun z => h ⟨z.1, z.2.1⟩)]
  | y :: l, hs => by
    have h1 := List.pairwise_cons.mp hs
    simp only [ins]
    split
    · rename_i hlt
      simp only [c_first]
      by_cases hy : s_ev σ y ≤ t ∧ s_ar σ y ≤ k
      · simp only [if_pos hy]
        rw [if_neg]
        rintro ⟨-, -, h | h⟩
        · omega
        · rw [Nat.add_sub_cancel] at h; omega
      · simp only [if_neg hy]
        exact c_first_ins h1.2
    · rename_i hge
      by_cases hx : s_ev σ x ≤ t ∧ s_ar σ x ≤ k
      · rw [if_pos]
        · show (if _ then _ else _) = _
          rw [if_pos hx]
        · refine ⟨hx.1, hx.2, ?_⟩
          cases hc : c_first σ t k (y :: l) with
          | zero => exact Or.inl rfl
          | succ r =>
            refine Or.inr ?_
            rw [Nat.add_sub_cancel]
            rcases List.mem_cons.mp (c_first_mem hc).1 with e | e
            · rw [e]; omega
            · have := (h1.1 r e).1; omega
      · rw [if_neg (fun z => hx ⟨z.1, z.2.1⟩)]
        show (if _ then _ else _) = _
        rw [if_neg hx]
theorem c_first_best {σ : St} (q t k : Nat) : ∀ n : Nat, c_first σ t k (chn σ q n) = q_best σ q t k n
  | 0 => rfl
  | n + 1 => by
    have ih := c_first_best (σ := σ) q t k n
    simp only [chn, q_best]
    by_cases h : s_pr σ n = q
    · rw [if_pos h, c_first_ins (srt_chn σ q n), ih]
      by_cases h2 : s_ev σ n ≤ t ∧ s_ar σ n ≤ k ∧ (q_best σ q t k n = 0 ∨ s_ev σ (q_best σ q t k n - 1) ≤ s_ev σ n)
      · rw [if_pos h2, if_pos ⟨h, h2⟩]
      · rw [if_neg h2, if_neg (fun z => h2 z.2)]
    · rw [if_neg h, ih, if_neg (fun z => h z.1)]
theorem c_sum_ins {σ : St} (x y z : Nat) : ∀ l : List Nat, c_sum σ x y (ins (s_ev σ) z l) = (if x ≤ s_ev σ z ∧ s_ev σ z ≤ y then s_vl σ z else 0) + c_sum σ x y l
  | [] => rfl
  | w :: l => by
    simp only [ins]
    split
    · simp only [c_sum]
      rw [c_sum_ins x y z l]
      omega
    · rfl
theorem c_sum_sum {σ : St} (q x y : Nat) : ∀ n : Nat, c_sum σ x y (chn σ q n) = q_sum σ q x y n
  | 0 => rfl
  | n + 1 => by
    have ih := c_sum_sum (σ := σ) q x y n
    simp only [chn, q_sum]
    by_cases h : s_pr σ n = q
    · rw [if_pos h, c_sum_ins, ih]
      by_cases h2 : x ≤ s_ev σ n ∧ s_ev σ n ≤ y
      · rw [if_pos h2, if_pos ⟨h, h2⟩]; omega
      · rw [if_neg h2, if_neg (fun z => h2 z.2)]; omega
    · rw [if_neg h, ih, if_neg (fun z => h z.1)]
      rfl
-- tiles
theorem q_fst_iff {σ : St} {len row : Nat} : ∀ {r : Nat}, q_fst σ len row r = 1 ↔ ∀ j, j < r → ¬ (s_pr σ j = s_pr σ row ∧ s_ev σ j / len = s_ev σ row / len)
  | 0 => ⟨fun _ j hj => absurd hj (Nat.not_lt_zero j), fun _ => rfl⟩
  | r + 1 => by
    have ih := q_fst_iff (σ := σ) (len := len) (row := row) (r := r)
    simp only [q_fst]
    by_cases h : q_fst σ len row r = 1 ∧ (¬ s_pr σ r = s_pr σ row ∨ ¬ s_ev σ r / len = s_ev σ row / len)
    · rw [if_pos h]
      refine ⟨fun _ j hj => ?_, fun _ => rfl⟩
      rcases Nat.lt_or_ge j r with h1 | h1
      · exact ih.mp h.1 j h1
      · have : j = r := by omega
        subst this
        rintro ⟨e1, e2⟩
        rcases h.2 with h2 | h2
        · exact h2 e1
        · exact h2 e2
    · rw [if_neg h]
      refine ⟨fun z => absurd z (by decide), fun z => absurd ⟨ih.mpr (fun j hj => z j (by omega)), ?_⟩ h⟩
      have := z r (Nat.lt_succ_self r)
      by_cases e1 : s_pr σ r = s_pr σ row
      · exact Or.inr (fun e2 => this ⟨e1, e2⟩)
      · exact Or.inl e1
theorem tile_le {σ : St} {len a b : Nat} (h : s_ev σ a ≤ s_ev σ b) : s_ev σ a / len ≤ s_ev σ b / len := Nat.div_le_div_right h
theorem c_tl_ins {σ : St} {len x : Nat} : ∀ {l : List Nat} (tl : Nat), srt σ l → (tl = 0 ∨ ((∀ y ∈ l, s_ev σ y / len + 1 ≤ tl) ∧ s_ev σ x / len + 1 ≤ tl)) →
    ∀ (e : Nat), ((s_ev σ x / len + 1 = tl ∨ ∃ y ∈ l, s_ev σ y / len = s_ev σ x / len) → e = 0) → (¬ (s_ev σ x / len + 1 = tl ∨ ∃ y ∈ l, s_ev σ y / len = s_ev σ x / len) → e = 1) → c_tl σ len (ins (s_ev σ) x l) tl = c_tl σ len l tl + e
  | [], tl, _, _, e, h0, h1 => by
    simp only [ins, c_tl]
    by_cases h : s_ev σ x / len + 1 = tl
    · rw [if_pos h, h0 (Or.inl h)]
    · rw [if_neg h, h1 (by rintro (z | ⟨y, hy, -⟩); exact h z; cases hy)]
  | y :: l, tl, hs, hb, e, h0, h1 => by
    have hp := List.pairwise_cons.mp hs
    have hle : ∀ z ∈ l, s_ev σ z / len ≤ s_ev σ y / len := fun z hz => tile_le (hp.1 z hz).1
    simp only [ins]
    split
    · rename_i hlt
      have hxy : s_ev σ x / len ≤ s_ev σ y / len := tile_le (Nat.le_of_lt hlt)
      simp only [c_tl]
      rw [c_tl_ins (s_ev σ y / len + 1) hp.2 (Or.inr ⟨fun z hz => Nat.succ_le_succ (hle z hz), Nat.succ_le_succ hxy⟩) e (fun z => h0 ?_) (fun z => h1 (fun w => z ?_))]
      · omega
      · rcases z with z | ⟨w, hw, e2⟩
        · exact Or.inr ⟨y, List.mem_cons_self, by omega⟩
        · exact Or.inr ⟨w, List.mem_cons_of_mem _ hw, e2⟩
      · rcases w with w | ⟨w, hw, e2⟩
        · rcases hb with hb | ⟨hb1, hb2⟩
          · exact absurd (w.trans hb) (Nat.succ_ne_zero _)
          · have := hb1 y List.mem_cons_self
            exact Or.inl (by omega)
        · rcases List.mem_cons.mp hw with rfl | hw
          · exact Or.inl (by omega)
          · exact Or.inr ⟨w, hw, e2⟩
    · rename_i hge
      have hyx : s_ev σ y / len ≤ s_ev σ x / len := tile_le (Nat.not_lt.mp hge)
      simp only [c_tl]
      have hex : (∃ z ∈ y :: l, s_ev σ z / len = s_ev σ x / len) ↔ s_ev σ y / len = s_ev σ x / len := by
        constructor
        · rintro ⟨z, hz, e2⟩
          rcases List.mem_cons.mp hz with rfl | hz
          · exact e2
          · have := hle z hz; omega
        · intro e2; exact ⟨y, List.mem_cons_self, e2⟩
      rw [hex] at h0 h1
      by_cases h2 : s_ev σ x / len + 1 = tl
      · rw [h0 (Or.inl h2), if_pos h2]
        by_cases h3 : s_ev σ y / len = s_ev σ x / len
        · rw [if_pos (by omega), if_pos (by omega)]; omega
        · rw [if_neg (by omega), if_neg (by omega)]; omega
      · rw [if_neg h2]
        by_cases h3 : s_ev σ y / len = s_ev σ x / len
        · rw [h0 (Or.inr h3), if_pos (by omega), if_neg (by omega)]; omega
        · rw [h1 (by rintro (z | z); exact h2 z; exact h3 z), if_neg (by omega), if_neg (by
            intro h4
            rcases hb with hb | ⟨hb1, hb2⟩
            · exact absurd (h4.trans hb) (Nat.succ_ne_zero _)
            · omega)]; omega
theorem c_tl_n {σ : St} (q len : Nat) : ∀ n : Nat, c_tl σ len (chn σ q n) 0 = q_tl σ q len n
  | 0 => rfl
  | n + 1 => by
    have ih := c_tl_n (σ := σ) q len n
    simp only [chn, q_tl]
    by_cases h : s_pr σ n = q
    · rw [if_pos h]
      have hiff : (∃ y ∈ chn σ q n, s_ev σ y / len = s_ev σ n / len) ↔ ¬ q_fst σ len n n = 1 := by
        rw [q_fst_iff]
        constructor
        · rintro ⟨y, hy, e⟩ hall
          exact hall y (mem_chn.mp hy).1 ⟨by rw [(mem_chn.mp hy).2, h], e⟩
        · intro hn
          by_cases hq : ∃ y ∈ chn σ q n, s_ev σ y / len = s_ev σ n / len
          · exact hq
          · exact absurd (fun j hj hh => hq ⟨j, mem_chn.mpr ⟨hj, by rw [hh.1, h]⟩, hh.2⟩) hn
      rw [c_tl_ins 0 (srt_chn σ q n) (Or.inl rfl) (if s_pr σ n = q ∧ q_fst σ len n n = 1 then 1 else 0), ih]
      · rintro (z | z)
        · exact absurd z (Nat.succ_ne_zero _)
        · rw [if_neg (fun w => hiff.mp z w.2)]
      · intro z
        rw [if_pos ⟨h, by
          by_cases hq : q_fst σ len n n = 1
          · exact hq
          · exact absurd (Or.inr (hiff.mpr hq)) z⟩]
    · rw [if_neg h, ih, if_neg (fun z => h z.1)]
      rfl
theorem c_tl_tl {σ : St} (q len : Nat) (_ : 1 ≤ len) : c_tl σ len (chn σ q (s_n σ)) 0 = q_tl σ q len (s_n σ) := c_tl_n q len _
-- the greatest tile
/-- the sum of a tile's rows in a list -/
def tS (σ : St) (len : Nat) (l : List Nat) (t : Nat) : Nat := c_sum σ (t * len) (t * len + len - 1) l
theorem in_tile {len ev t : Nat} (hl : 1 ≤ len) : (t * len ≤ ev ∧ ev ≤ t * len + len - 1) ↔ ev / len = t := by
  constructor
  · rintro ⟨h1, h2⟩
    exact Nat.div_eq_of_lt_le h1 (by rw [Nat.succ_mul]; omega)
  · rintro rfl
    have h1 := Nat.div_mul_le_self ev len
    have h2 := Nat.lt_div_mul_add (a := ev) (b := len) (by omega)
    omega
theorem tS_cons {σ : St} {len x t : Nat} {l : List Nat} (hl : 1 ≤ len) : tS σ len (x :: l) t = (if s_ev σ x / len = t then s_vl σ x else 0) + tS σ len l t := by
  unfold tS
  simp only [c_sum]
  by_cases h : s_ev σ x / len = t
  · rw [if_pos h, if_pos ((in_tile hl).mpr h)]
  · rw [if_neg h, if_neg (fun z => h ((in_tile hl).mp z))]
theorem tS_none {σ : St} {len t : Nat} (hl : 1 ≤ len) : ∀ {l : List Nat}, (∀ y ∈ l, ¬ s_ev σ y / len = t) → tS σ len l t = 0
  | [], _ => rfl
  | x :: l, h => by
    rw [tS_cons hl, if_neg (h x List.mem_cons_self), tS_none hl (fun y hy => h y (List.mem_cons_of_mem _ hy))]
theorem c_gt_spec {σ : St} {len : Nat} (hl : 1 ≤ len) : ∀ {l : List Nat} (g s tl : Nat), srt σ l → (tl = 0 ∨ ∀ y ∈ l, s_ev σ y / len + 1 ≤ tl) →
    g ≤ c_gt σ len l g s tl ∧ (∀ y ∈ l, tS σ len l (s_ev σ y / len) + (if s_ev σ y / len + 1 = tl then s else 0) ≤ c_gt σ len l g s tl) ∧
    (c_gt σ len l g s tl ≤ g ∨ ∃ y ∈ l, c_gt σ len l g s tl ≤ tS σ len l (s_ev σ y / len) + (if s_ev σ y / len + 1 = tl then s else 0))
  | [], g, s, tl, _, _ => ⟨Nat.le_refl _, fun y hy => absurd hy List.not_mem_nil, Or.inl (Nat.le_refl _)⟩
  | x :: l, g, s, tl, hs, hb => by
    have hp := List.pairwise_cons.mp hs
    have hle : ∀ z ∈ l, s_ev σ z / len ≤ s_ev σ x / len := fun z hz => tile_le (hp.1 z hz).1
    obtain ⟨h1, h2, h3⟩ := c_gt_spec hl (l := l) (max g (c_s σ len x s tl)) (c_s σ len x s tl) (s_ev σ x / len + 1) hp.2 (Or.inr (fun y hy => Nat.succ_le_succ (hle y hy)))
    have hV : c_gt σ len (x :: l) g s tl = c_gt σ len l (max g (c_s σ len x s tl)) (c_s σ len x s tl) (s_ev σ x / len + 1) := rfl
    rw [hV]
    have hx0 : tS σ len (x :: l) (s_ev σ x / len) = s_vl σ x + tS σ len l (s_ev σ x / len) := by rw [tS_cons hl, if_pos rfl]
    have hsx : c_s σ len x s tl = (if s_ev σ x / len + 1 = tl then s else 0) + s_vl σ x := rfl
    have htot : tS σ len (x :: l) (s_ev σ x / len) + (if s_ev σ x / len + 1 = tl then s else 0) = tS σ len l (s_ev σ x / len) + c_s σ len x s tl := by rw [hx0, hsx]; omega
    have hne : ∀ y ∈ l, ¬ s_ev σ y / len = s_ev σ x / len → (if s_ev σ y / len + 1 = tl then s else 0) = 0 := by
      intro y hy hn
      rw [if_neg]
      intro h4
      have := hle y hy
      rcases hb with hb | hb
      · exact absurd (h4.trans hb) (Nat.succ_ne_zero _)
      · have := hb x List.mem_cons_self
        omega
    have hother : ∀ y ∈ l, ¬ s_ev σ y / len = s_ev σ x / len → tS σ len (x :: l) (s_ev σ y / len) = tS σ len l (s_ev σ y / len) := by
      intro y hy hn
      rw [tS_cons hl, if_neg (fun z => hn z.symm), Nat.zero_add]
    have hX : tS σ len l (s_ev σ x / len) + c_s σ len x s tl ≤ c_gt σ len l (max g (c_s σ len x s tl)) (c_s σ len x s tl) (s_ev σ x / len + 1) := by
      by_cases hq : ∃ z ∈ l, s_ev σ z / len = s_ev σ x / len
      · obtain ⟨z, hz, e⟩ := hq
        have := h2 z hz
        rw [e, if_pos rfl] at this
        exact this
      · rw [tS_none hl (fun y hy e => hq ⟨y, hy, e⟩), Nat.zero_add]
        omega
    refine ⟨by omega, ?_, ?_⟩
    · intro y hy
      by_cases e : s_ev σ y / len = s_ev σ x / len
      · rw [e, htot]; exact hX
      · rcases List.mem_cons.mp hy with rfl | hy
        · exact absurd rfl e
        · rw [hother y hy e, hne y hy e]
          have := h2 y hy
          rw [if_neg (by omega)] at this
          exact this
    · rcases h3 with h3 | ⟨y, hy, h3⟩
      · rcases Nat.le_total (c_s σ len x s tl) g with hg | hg
        · exact Or.inl (by rw [Nat.max_eq_left hg] at h3 ⊢; exact h3)
        · refine Or.inr ⟨x, List.mem_cons_self, ?_⟩
          rw [htot]
          rw [Nat.max_eq_right hg] at h3 ⊢
          omega
      · by_cases e : s_ev σ y / len = s_ev σ x / len
        · refine Or.inr ⟨x, List.mem_cons_self, ?_⟩
          rw [e, if_pos rfl] at h3
          rw [htot]; exact h3
        · refine Or.inr ⟨y, List.mem_cons_of_mem _ hy, ?_⟩
          rw [hother y hy e, hne y hy e]
          rw [if_neg (by omega)] at h3
          exact h3
theorem q_its_pos {σ : St} {q len r : Nat} (h1 : s_pr σ r = q) (h2 : q_fst σ len r r = 1) : q_its σ q len r = tS σ len (chn σ q (s_n σ)) (s_ev σ r / len) := by
  unfold q_its tS
  rw [if_pos ⟨h1, h2⟩, c_sum_sum]
theorem q_gt_spec {σ : St} {q len : Nat} : ∀ r : Nat, (∀ y, y < r → s_pr σ y = q → q_fst σ len y y = 1 → tS σ len (chn σ q (s_n σ)) (s_ev σ y / len) ≤ q_gt σ q len r) ∧
    (q_gt σ q len r = 0 ∨ ∃ y, y < r ∧ s_pr σ y = q ∧ q_gt σ q len r = tS σ len (chn σ q (s_n σ)) (s_ev σ y / len))
  | 0 => ⟨fun y hy => absurd hy (Nat.not_lt_zero y), Or.inl rfl⟩
  | r + 1 => by
    obtain ⟨h1, h2⟩ := q_gt_spec (σ := σ) (q := q) (len := len) r
    have hge : q_gt σ q len r ≤ q_gt σ q len (r + 1) ∧ q_its σ q len r ≤ q_gt σ q len (r + 1) := by
      simp only [q_gt]
      split <;> omega
    refine ⟨fun y hy e1 e2 => ?_, ?_⟩
    · rcases Nat.lt_or_ge y r with h3 | h3
      · exact Nat.le_trans (h1 y h3 e1 e2) hge.1
      · have : y = r := by omega
        subst this
        rw [← q_its_pos e1 e2]
        exact hge.2
    · by_cases h3 : q_gt σ q len r < q_its σ q len r
      · have h4 : q_gt σ q len (r + 1) = q_its σ q len r := by simp only [q_gt]; rw [if_pos h3]
        by_cases h5 : s_pr σ r = q ∧ q_fst σ len r r = 1
        · exact Or.inr ⟨r, Nat.lt_succ_self r, h5.1, by rw [h4, q_its_pos h5.1 h5.2]⟩
        · have : q_its σ q len r = 0 := by unfold q_its; rw [if_neg h5]
          omega
      · have h4 : q_gt σ q len (r + 1) = q_gt σ q len r := by simp only [q_gt]; rw [if_neg h3]
        rw [h4]
        rcases h2 with h2 | ⟨y, hy, h5, h6⟩
        · exact Or.inl h2
        · exact Or.inr ⟨y, by omega, h5, h6⟩
/-- every row has a first one in its tile -/
theorem q_fst_ex {σ : St} {len : Nat} (y : Nat) : ∃ j, j ≤ y ∧ s_pr σ j = s_pr σ y ∧ s_ev σ j / len = s_ev σ y / len ∧ q_fst σ len j j = 1 := by
  induction y using Nat.strongRecOn with
  | ind y ih =>
    by_cases h : q_fst σ len y y = 1
    · exact ⟨y, Nat.le_refl _, rfl, rfl, h⟩
    · have h2 : ∃ j, j < y ∧ s_pr σ j = s_pr σ y ∧ s_ev σ j / len = s_ev σ y / len := by
        by_cases hq : ∃ j, j < y ∧ s_pr σ j = s_pr σ y ∧ s_ev σ j / len = s_ev σ y / len
        · exact hq
        · exact absurd (q_fst_iff.mpr (fun j hj hh => hq ⟨j, hj, hh.1, hh.2⟩)) h
      obtain ⟨j, hj, e1, e2⟩ := h2
      obtain ⟨i, hi, e3, e4, e5⟩ := ih j hj
      exact ⟨i, by omega, e3.trans e1, e4.trans e2, e5⟩
theorem c_gt_gt {σ : St} (q len : Nat) (hl : 1 ≤ len) : c_gt σ len (chn σ q (s_n σ)) 0 0 0 = q_gt σ q len (s_n σ) := by
  obtain ⟨-, h2, h3⟩ := c_gt_spec (σ := σ) hl (l := chn σ q (s_n σ)) 0 0 0 (srt_chn σ q _) (Or.inl rfl)
  obtain ⟨g1, g2⟩ := q_gt_spec (σ := σ) (q := q) (len := len) (s_n σ)
  apply Nat.le_antisymm
  · rcases h3 with h3 | ⟨y, hy, h3⟩
    · omega
    · rw [if_neg (Nat.succ_ne_zero _), Nat.add_zero] at h3
      obtain ⟨hy1, hy2⟩ := mem_chn.mp hy
      obtain ⟨j, hj, e1, e2, e3⟩ := q_fst_ex (σ := σ) (len := len) y
      have := g1 j (by omega) (by rw [e1, hy2]) e3
      rw [e2] at this
      omega
  · rcases g2 with g2 | ⟨y, hy, e1, g2⟩
    · omega
    · have := h2 y (mem_chn.mpr ⟨hy, e1⟩)
      rw [if_neg (Nat.succ_ne_zero _)] at this
      omega
-- revised
def sumD (D : Nat → Nat) (T : Nat) : Nat → Nat
  | 0 => 0
  | j + 1 => sumD D T j + D (j * T)
theorem sumD_congr {D D' : Nat → Nat} {T : Nat} : ∀ {n : Nat}, (∀ j, j < n → D (j * T) = D' (j * T)) → sumD D T n = sumD D' T n
  | 0, _ => rfl
  | n + 1, h => by
    simp only [sumD]
    rw [sumD_congr (fun j hj => h j (by omega)), h n (Nat.lt_succ_self n)]
theorem mb_lt {e T j : Nat} (hT : 1 ≤ T) : j < c_mb e T ↔ j * T < e := by
  unfold c_mb
  rw [Nat.lt_iff_add_one_le, Nat.le_div_iff_mul_le (by omega), Nat.succ_mul]
  omega
theorem c_mb_le {x y T : Nat} (h : x ≤ y) : c_mb x T ≤ c_mb y T := Nat.div_le_div_right (by omega)
theorem sumD_range {D : Nat → Nat} {T a b m : Nat} (hT : 1 ≤ T) : ∀ i : Nat, c_mb a T + i ≤ m → (∀ j, c_mb a T ≤ j → j < m → D (j * T) = if j * T < b then 1 else 0) → sumD D T (c_mb a T + i) = sumD D T (c_mb a T) + (min (c_mb a T + i) (c_mb b T) - c_mb a T)
  | 0, _, _ => by
    show sumD D T (c_mb a T) = sumD D T (c_mb a T) + (min (c_mb a T) (c_mb b T) - c_mb a T)
    omega
  | i + 1, h, hD => by
    have ih := sumD_range (b := b) hT i (by omega) hD
    show sumD D T (c_mb a T + i) + D ((c_mb a T + i) * T) = _
    rw [ih, hD (c_mb a T + i) (by omega) (by omega)]
    by_cases hb : (c_mb a T + i) * T < b
    · rw [if_pos hb]
      have := (mb_lt hT).mpr hb
      omega
    · rw [if_neg hb]
      have : ¬ c_mb a T + i < c_mb b T := fun z => hb ((mb_lt hT).mp z)
      omega
/-- whether the answer at t was revised, over a chain -/
def dL (σ : St) (l : List Nat) (t : Nat) : Nat := if q_fr σ (c_first σ t (s_now σ) l) t = q_fr σ (c_first σ t t l) t then 0 else 1
theorem dL_low {σ : St} {x t : Nat} {l : List Nat} (h : t < s_ev σ x) : dL σ (x :: l) t = dL σ l t := by
  have a1 : ∀ k, c_first σ t k (x :: l) = c_first σ t k l := fun k => by
    simp only [c_first]
    rw [if_neg (by omega)]
  unfold dL
  rw [a1, a1]
theorem dL_high {σ : St} {x t f : Nat} {l : List Nat} (hs : srt σ (x :: l)) (hf : s_pr σ x / 10 = f) (hfl : ∀ y ∈ l, s_pr σ y / 10 = f) (har : s_ar σ x ≤ s_now σ) (h : s_ev σ x ≤ t) : dL σ (x :: l) t = if t < min (s_ev σ x + s_lt σ f + 1) (s_ar σ x) then 1 else 0 := by
  have hp := List.pairwise_cons.mp hs
  have a1 : c_first σ t (s_now σ) (x :: l) = x + 1 := by
    simp only [c_first]
    rw [if_pos ⟨h, har⟩]
  unfold dL
  rw [a1]
  by_cases h1 : s_ar σ x ≤ t
  · have a2 : c_first σ t t (x :: l) = x + 1 := by
      simp only [c_first]
      rw [if_pos ⟨h, h1⟩]
    rw [a2, if_pos rfl, if_neg (by omega)]
  · have a2 : c_first σ t t (x :: l) = c_first σ t t l := by
      simp only [c_first]
      rw [if_neg (by omega)]
    rw [a2]
    have hx : q_fr σ (x + 1) t = if t ≤ s_ev σ x + s_lt σ f then x + 1 else 0 := by
      unfold q_fr
      rw [if_neg (Nat.succ_ne_zero x), Nat.add_sub_cancel, hf]
    have ho : q_fr σ (c_first σ t t l) t ≠ x + 1 ∧ (¬ t ≤ s_ev σ x + s_lt σ f → q_fr σ (c_first σ t t l) t = 0) := by
      cases hc : c_first σ t t l with
      | zero => exact ⟨by simp [q_fr], fun _ => by simp [q_fr]⟩
      | succ r =>
        obtain ⟨hm, -, -⟩ := c_first_mem hc
        have hr := hp.1 r hm
        unfold q_fr
        rw [if_neg (Nat.succ_ne_zero r), Nat.add_sub_cancel, hfl r hm]
        constructor
        · split
          · have := hr.2; omega
          · omega
        · intro hn
          rw [if_neg (by omega)]
    rw [hx]
    by_cases h2 : t ≤ s_ev σ x + s_lt σ f
    · rw [if_pos h2, if_neg (fun z => ho.1 z.symm), if_pos (by omega)]
    · rw [if_neg h2, ho.2 h2, if_pos rfl, if_neg (by omega)]
theorem c_rev_sum {σ : St} {f T : Nat} (hT : 1 ≤ T) : ∀ {l : List Nat} (later : Nat), srt σ l → (∀ y ∈ l, s_pr σ y / 10 = f ∧ s_ar σ y ≤ s_now σ ∧ s_ev σ y ≤ later) → c_rev σ f T l later = sumD (dL σ l) T (c_mb later T)
  | [], later, _, _ => by
    show 0 = _
    have : ∀ n, sumD (dL σ []) T n = 0 := by
      intro n
      induction n with
      | zero => rfl
      | succ n ih => simp only [sumD, ih]; simp [dL, c_first]
    rw [this]
  | x :: l, later, hs, hb => by
    have hp := List.pairwise_cons.mp hs
    obtain ⟨hf, har, hev⟩ := hb x List.mem_cons_self
    have hfl : ∀ y ∈ l, s_pr σ y / 10 = f := fun y hy => (hb y (List.mem_cons_of_mem _ hy)).1
    have ih := c_rev_sum (σ := σ) (f := f) hT (l := l) (s_ev σ x) hp.2 (fun y hy => ⟨hfl y hy, (hb y (List.mem_cons_of_mem _ hy)).2.1, (hp.1 y hy).1⟩)
    have hm := c_mb_le (T := T) hev
    have hr := sumD_range (D := dL σ (x :: l)) (a := s_ev σ x) (b := min (s_ev σ x + s_lt σ f + 1) (s_ar σ x)) (m := c_mb later T) hT (c_mb later T - c_mb (s_ev σ x) T) (by omega) (fun j h1 h2 => dL_high hs hf hfl har (by
      have : ¬ j < c_mb (s_ev σ x) T := by omega
      rw [mb_lt hT] at this
      omega))
    rw [show c_mb (s_ev σ x) T + (c_mb later T - c_mb (s_ev σ x) T) = c_mb later T from by omega] at hr
    rw [hr, sumD_congr (D' := dL σ l) (fun j hj => dL_low ((mb_lt hT).mp hj)), ← ih]
    simp only [c_rev]
    have hru : c_ru σ f x later = min later (min (s_ev σ x + s_lt σ f + 1) (s_ar σ x)) := by unfold c_ru; omega
    rw [hru]
    have hmin : c_mb (min later (min (s_ev σ x + s_lt σ f + 1) (s_ar σ x))) T = min (c_mb later T) (c_mb (min (s_ev σ x + s_lt σ f + 1) (s_ar σ x)) T) := by
      rcases Nat.le_total later (min (s_ev σ x + s_lt σ f + 1) (s_ar σ x)) with h | h
      · rw [Nat.min_eq_left h, Nat.min_eq_left (c_mb_le h)]
      · rw [Nat.min_eq_right h, Nat.min_eq_right (c_mb_le h)]
    rw [hmin]
    split
    · omega
    · rename_i hn
      have := c_mb_le (T := T) (Nat.not_lt.mp hn)
      rw [hmin] at this
      omega
theorem q_rev_sum {σ : St} (q T : Nat) : ∀ j : Nat, q_rev σ q T j = sumD (dL σ (chn σ q (s_n σ))) T j
  | 0 => rfl
  | j + 1 => by
    simp only [q_rev, sumD]
    rw [q_rev_sum q T j]
    unfold dL q_join
    rw [c_first_best, c_first_best]
theorem c_rev_rev {σ : St} (hI : sI σ) (q T : Nat) (hT : 1 ≤ T) : c_rev σ (q / 10) T (chn σ q (s_n σ)) (s_now σ + 1) = q_rev σ q T (s_now σ / T + 1) := by
  rw [q_rev_sum, c_rev_sum hT (s_now σ + 1) (srt_chn σ q _)]
  · rw [show c_mb (s_now σ + 1) T = s_now σ / T + 1 from by
      unfold c_mb
      rw [show s_now σ + 1 + T - 1 = s_now σ + T from by omega, Nat.add_div_right _ (by omega)]]
  · intro y hy
    obtain ⟨h1, h2⟩ := mem_chn.mp hy
    obtain ⟨h3, h4, h5, h6⟩ := hI.2.2.2.2.2.1 y h1
    exact ⟨by rw [h2], h5, by omega⟩
end
section
/-! the class: the checks, and what reads (laid by wip/whole/gen/x2ro.py) -/
set_option maxHeartbeats 4000000 in
set_option maxRecDepth 100000 in
theorem c_X2_requireRange (l : Launch) (dD : va_G) (cI cR cS : ClassId) (lo : Nat) (hfl : l.stackTraces = false) (x lw hg : Int32) : vx_Met l yX2_requireRange wsX2_requireRange ({ frames := 6, cells := 1, slots := 6, locals := 82 }) (ePc dD cI cR cS lo [.int x, .int lw, .int hg] (fun H => True)) (va_Sv (fun _ => lw ≤ x ∧ x ≤ hg)) (eX (fun E => E = nIAE ∧ ¬ (lw ≤ x ∧ x ≤ hg))) 1 6 (fun _ => False) := by
  refine vx_ofW (cc := cX2_requireRange) (maxL := 3) (ret := none) (by decide) rfl ?_
  intro p e_ s m args below meth c s₁ B hml hnt hv
  obtain ⟨rfl, hE, hP⟩ := hv
  have hx := B.exec
  have hb := B.bytes
  have hr := B.returns
  have hts := atoms_spec (ws := wsX2_requireRange) B.pre
  have hown : s.vm.findClass RX2 = some m.cls := findClass_of_methodNamed B.named
  have hlocks := B.notSynchronized
  have hK := hE.1.1
  have hl := lv_entry ([.int x, .int lw, .int hg]) (n := 3) (Nat.le_of_ble_eq_true rfl)
  rw [lg_entry_eq]
  generalize (lg_sl ([.int x, .int lw, .int hg]) ++ List.replicate (3 - (lg_sl ([.int x, .int lw, .int hg])).length) Slot.unset).toArray = ls at hl ⊢
  have hl : lv_has ls 3 [(0, .int x), (1, .int lw), (2, .int hg)] := hl
  refine lv_iload_n hx hb dX2_requireRange_0 rfl (lv_at hl 0 rfl) ?_
  refine lv_iload_n hx hb dX2_requireRange_1 rfl (lv_at hl 1 rfl) ?_
  refine lv_icmp_lt (tgt := 10) hx hb dX2_requireRange_2 (by decide) (fun c_2 => ?_) (fun c_2 => ?_)
  · exact nx_throw hx hb hfl hown hml hnt hlocks hts (by decide +kernel) (by decide +kernel) bad_iae ot_iae hE hE.1.2.2.2.2.1 hl dX2_requireRange_10 dX2_requireRange_13 dX2_requireRange_14 dX2_requireRange_16 dX2_requireRange_19 (Nat.le_of_ble_eq_true rfl) (Nat.le_of_ble_eq_true rfl) (Nat.le_of_ble_eq_true rfl) (Nat.le_of_ble_eq_true rfl) (⟨rfl, fun h => absurd c_2 (Int32.not_lt.mpr h.1)⟩) (by decide) (by decide)
  · refine lv_iload_n hx hb dX2_requireRange_5 rfl (lv_at hl 0 rfl) ?_
    refine lv_iload_n hx hb dX2_requireRange_6 rfl (lv_at hl 2 rfl) ?_
    refine lv_icmp_le (tgt := 20) hx hb dX2_requireRange_7 (by decide) (fun c_7 => ?_) (fun c_7 => ?_)
    · exact vx_ret (W.widen (k := 1) (n := 6) (by decide) (by decide) (W.vret hx hb hr (fun u9 hu9 hW => ⟨rfl, ⟨Int32.not_lt.mp c_2, c_7⟩, hu9⟩) (fun q h => absurd h List.not_mem_nil) dX2_requireRange_20))
    · exact nx_throw hx hb hfl hown hml hnt hlocks hts (by decide +kernel) (by decide +kernel) bad_iae ot_iae hE hE.1.2.2.2.2.1 hl dX2_requireRange_10 dX2_requireRange_13 dX2_requireRange_14 dX2_requireRange_16 dX2_requireRange_19 (Nat.le_of_ble_eq_true rfl) (Nat.le_of_ble_eq_true rfl) (Nat.le_of_ble_eq_true rfl) (Nat.le_of_ble_eq_true rfl) (⟨rfl, fun h => absurd h.2 c_7⟩) (by decide) (by decide)

set_option maxHeartbeats 4000000 in
set_option maxRecDepth 100000 in
theorem c_X2_requirePair (l : Launch) (dD : va_G) (cI cR cS : ClassId) (lo : Nat) (hfl : l.stackTraces = false) (f e : Int32) : vx_Met l yX2_requirePair wsX2_requirePair ({ frames := 7, cells := 2, slots := 12, locals := 104 }) (ePc dD cI cR cS lo [.int f, .int e] (fun H => True)) (va_Sv (fun _ => okP f e)) (eX (fun E => E = nIAE ∧ ¬ okP f e)) 2 12 (fun _ => False) := by
  refine vx_ofW (cc := cX2_requirePair) (maxL := 2) (ret := none) (by decide) rfl ?_
  intro p e_ s m args below meth c s₁ B hml hnt hv
  obtain ⟨rfl, hE, hP⟩ := hv
  have hx := B.exec
  have hb := B.bytes
  have hr := B.returns
  have hts := atoms_spec (ws := wsX2_requirePair) B.pre
  have hown : s.vm.findClass RX2 = some m.cls := findClass_of_methodNamed B.named
  have hlocks := B.notSynchronized
  have hK := hE.1.1
  have hl := lv_entry ([.int f, .int e]) (n := 2) (Nat.le_of_ble_eq_true rfl)
  rw [lg_entry_eq]
  generalize (lg_sl ([.int f, .int e]) ++ List.replicate (2 - (lg_sl ([.int f, .int e])).length) Slot.unset).toArray = ls at hl ⊢
  have hl : lv_has ls 2 [(0, .int f), (1, .int e)] := hl
  refine lv_iload_n hx hb dX2_requirePair_0 rfl (lv_at hl 0 rfl) ?_
  refine lv_iconst (v := nI 0) hx hb dX2_requirePair_1 (by decide +kernel) ?_
  refine lv_iconst (v := nI 5) hx hb dX2_requirePair_2 (by decide +kernel) ?_
  refine nx_callv (vx_runS (As := [.int f, .int (nI 0), .int (nI 5)]) (rest := []) ⟨hx, hb, hml, hown, hts⟩ (c_X2_requireRange l dD cI cR cS lo hfl f (nI 0) (nI 5)) (va_cwS 3 hts gX2_requirePair_X2_requireRange rfl rfl rfl (by decide +kernel) ⟨Nat.le_of_ble_eq_true rfl, Nat.le_of_ble_eq_true rfl⟩) (ePreS hE va_S.rf trivial) rfl rfl hl.1 rfl (lv_room (Nat.le_of_ble_eq_true rfl)) dX2_requirePair_3 ⟨Nat.le_of_ble_eq_true rfl, Nat.le_of_ble_eq_true rfl⟩) (fun E ce q9 H1 hX9 hz9 hk9 hc9 hv9 hf9 => vx_out (fun x hx => (hnt x hx).elim) hlocks hc9 hv9 hf9 (fun t9 ht9 _ => ⟨⟨hX9.1, fun h => hX9.2 (h.1)⟩, by rw [ht9]; exact hz9, fun q hq _ => by rw [ht9]; exact hk9 q hq⟩) (fun z hz => absurd hz List.not_mem_nil) (by decide) (by decide)) (fun hr_3 => ?_)
  refine lv_iload_n hx hb dX2_requirePair_6 rfl (lv_at hl 1 rfl) ?_
  refine lv_iconst (v := nI 0) hx hb dX2_requirePair_7 (by decide +kernel) ?_
  refine lv_bipush (v := nI 9) hx hb dX2_requirePair_8 (by decide +kernel) ?_
  refine nx_callv (vx_runS (As := [.int e, .int (nI 0), .int (nI 9)]) (rest := []) ⟨hx, hb, hml, hown, hts⟩ (c_X2_requireRange l dD cI cR cS lo hfl e (nI 0) (nI 9)) (va_cwS 3 hts gX2_requirePair_X2_requireRange rfl rfl rfl (by decide +kernel) ⟨Nat.le_of_ble_eq_true rfl, Nat.le_of_ble_eq_true rfl⟩) (ePreS hE va_S.rf trivial) rfl rfl hl.1 rfl (lv_room (Nat.le_of_ble_eq_true rfl)) dX2_requirePair_10 ⟨Nat.le_of_ble_eq_true rfl, Nat.le_of_ble_eq_true rfl⟩) (fun E ce q9 H1 hX9 hz9 hk9 hc9 hv9 hf9 => vx_out (fun x hx => (hnt x hx).elim) hlocks hc9 hv9 hf9 (fun t9 ht9 _ => ⟨⟨hX9.1, fun h => hX9.2 (h.2)⟩, by rw [ht9]; exact hz9, fun q hq _ => by rw [ht9]; exact hk9 q hq⟩) (fun z hz => absurd hz List.not_mem_nil) (by decide) (by decide)) (fun hr_10 => ?_)
  exact vx_ret (W.widen (k := 2) (n := 12) (by decide) (by decide) (W.vret hx hb hr (fun u9 hu9 hW => ⟨rfl, ⟨hr_3, hr_10⟩, hu9⟩) (fun q h => absurd h List.not_mem_nil) dX2_requirePair_13))

set_option maxHeartbeats 4000000 in
set_option maxRecDepth 100000 in
theorem c_X2_placeOf (l : Launch) (dD : va_G) (cI cR cS : ClassId) (lo : Nat) (f e : Nat) : Met l yX2_placeOf wsX2_placeOf ({ frames := 0, cells := 0, slots := 0, locals := 0 }) (ePc dD cI cR cS lo [.int (nI f), .int (nI e)] (fun H => True)) (vp_Si (fun r => r = nI (10 * f + e))) 0 0 (fun _ => False) := by
  refine Met.ofW (cc := cX2_placeOf) (maxL := 2) (ret := (some .int)) (by decide) rfl ?_
  intro p e_ s m args below meth c s₁ B hml hv
  obtain ⟨rfl, hE, hP⟩ := hv
  have hx := B.exec
  have hb := B.bytes
  have hr := B.returns
  have hts := atoms_spec (ws := wsX2_placeOf) B.pre
  have hown : s.vm.findClass RX2 = some m.cls := findClass_of_methodNamed B.named
  have hlocks := B.notSynchronized
  have hK := hE.1.1
  have hl := lv_entry ([.int (nI f), .int (nI e)]) (n := 2) (Nat.le_of_ble_eq_true rfl)
  rw [lg_entry_eq]
  generalize (lg_sl ([.int (nI f), .int (nI e)]) ++ List.replicate (2 - (lg_sl ([.int (nI f), .int (nI e)])).length) Slot.unset).toArray = ls at hl ⊢
  have hl : lv_has ls 2 [(0, .int (nI f)), (1, .int (nI e))] := hl
  refine lv_iload_n hx hb dX2_placeOf_0 rfl (lv_at hl 0 rfl) ?_
  refine lv_bipush (v := nI 10) hx hb dX2_placeOf_1 (by decide +kernel) ?_
  refine nv_imul hx hb dX2_placeOf_3 ?_
  refine lv_iload_n hx hb dX2_placeOf_4 rfl (lv_at hl 1 rfl) ?_
  refine nv_iadd hx hb dX2_placeOf_5 ?_
  exact W.iret (v := nI ((f * 10) + e)) hx hb hr (fun u9 hu9 hW => ⟨nI ((f * 10) + e), rfl, by rw [Nat.mul_comm], hu9⟩) (fun q h => absurd h List.not_mem_nil) dX2_placeOf_6

set_option maxHeartbeats 4000000 in
set_option maxRecDepth 100000 in
theorem c_X2_multiplesBelow (l : Launch) (dD : va_G) (cI cR cS : ClassId) (lo : Nat) (x T : Nat) (h1 : x ≤ 30000) (h2 : 1 ≤ T) (h3 : T ≤ 10000) : Met l yX2_multiplesBelow wsX2_multiplesBelow ({ frames := 0, cells := 0, slots := 0, locals := 0 }) (ePc dD cI cR cS lo [.int (nI x), .int (nI T)] (fun H => True)) (vp_Si (fun r => r = nI (c_mb x T))) 0 0 (fun _ => False) := by
  refine Met.ofW (cc := cX2_multiplesBelow) (maxL := 2) (ret := (some .int)) (by decide) rfl ?_
  intro p e_ s m args below meth c s₁ B hml hv
  obtain ⟨rfl, hE, hP⟩ := hv
  have hx := B.exec
  have hb := B.bytes
  have hr := B.returns
  have hts := atoms_spec (ws := wsX2_multiplesBelow) B.pre
  have hown : s.vm.findClass RX2 = some m.cls := findClass_of_methodNamed B.named
  have hlocks := B.notSynchronized
  have hK := hE.1.1
  have hl := lv_entry ([.int (nI x), .int (nI T)]) (n := 2) (Nat.le_of_ble_eq_true rfl)
  rw [lg_entry_eq]
  generalize (lg_sl ([.int (nI x), .int (nI T)]) ++ List.replicate (2 - (lg_sl ([.int (nI x), .int (nI T)])).length) Slot.unset).toArray = ls at hl ⊢
  have hl : lv_has ls 2 [(0, .int (nI x)), (1, .int (nI T))] := hl
  refine lv_iload_n hx hb dX2_multiplesBelow_0 rfl (lv_at hl 0 rfl) ?_
  refine lv_iload_n hx hb dX2_multiplesBelow_1 rfl (lv_at hl 1 rfl) ?_
  refine nv_iadd hx hb dX2_multiplesBelow_2 ?_
  refine lv_iconst (v := nI 1) hx hb dX2_multiplesBelow_3 (by decide +kernel) ?_
  refine nv_isub hx hb dX2_multiplesBelow_4 (by omega) ?_
  refine lv_iload_n hx hb dX2_multiplesBelow_5 rfl (lv_at hl 1 rfl) ?_
  refine nv_idiv hx hb dX2_multiplesBelow_6 (by omega) (by omega) (by omega) ?_
  exact W.iret (v := nI (((x + T) - 1) / T)) hx hb hr (fun u9 hu9 hW => ⟨nI (((x + T) - 1) / T), rfl, rfl, hu9⟩) (fun q h => absurd h List.not_mem_nil) dX2_multiplesBelow_7

set_option maxHeartbeats 4000000 in
set_option maxRecDepth 100000 in
theorem c_X2_now (l : Launch) (dD : va_G) (cI cR cS : ClassId) (lo : Nat) (x0 : Nat) (b ra sb hd ol : Nat → Nat) (σ : St) (hI : sI σ) : Met l yX2_now wsX2_now ({ frames := 0, cells := 0, slots := 0, locals := 0 }) (ePc dD cI cR cS lo [.ref x0] (fun H => va_P dD vwCl (xW cI cR cS x0 b ra sb hd ol σ) H)) (vp_Si (fun r => r = nI (s_now σ))) 0 0 (fun _ => False) := by
  refine Met.ofW (cc := cX2_now) (maxL := 1) (ret := (some .int)) (by decide) rfl ?_
  intro p e_ s m args below meth c s₁ B hml hv
  obtain ⟨rfl, hE, hP⟩ := hv
  have hx := B.exec
  have hb := B.bytes
  have hr := B.returns
  have hts := atoms_spec (ws := wsX2_now) B.pre
  have hown : s.vm.findClass RX2 = some m.cls := findClass_of_methodNamed B.named
  have hlocks := B.notSynchronized
  have hK := hE.1.1
  have hinX2 : ∀ w ∈ u_ws RX2 TX2 9, w ∈ wsX2_now := by decide +kernel
  obtain ⟨i_now, i_n, i_tk, i_k, i_lt, i_row, i_cp, i_srv⟩ := id hI
  have hl := lv_entry ([.ref x0]) (n := 1) (Nat.le_of_ble_eq_true rfl)
  rw [lg_entry_eq]
  generalize (lg_sl ([.ref x0]) ++ List.replicate (1 - (lg_sl ([.ref x0])).length) Slot.unset).toArray = ls at hl ⊢
  have hl : lv_has ls 1 [(0, .ref x0)] := hl
  refine lv_aload_n hx hb dX2_now_0 rfl (lv_at hl 0 rfl) ?_
  refine va_get (D := dD) (ci := 2) (v := .int (nI (s_now σ))) (C := RX2) (T := TX2) (N := 9) hx hb hts hinX2 hown hK hP 0 rfl rfl 0 (by decide) (hts (.fieldLink RX2 35 "FeatureStore" "now" "I") (by decide +kernel)) (fun _ h9 => h9) rfl dX2_now_1 ?_
  exact W.iret (v := nI (s_now σ)) hx hb hr (fun u9 hu9 hW => ⟨nI (s_now σ), rfl, rfl, hu9⟩) (fun q h => absurd h List.not_mem_nil) dX2_now_4

set_option maxHeartbeats 4000000 in
set_option maxRecDepth 100000 in
theorem c_X2_rows (l : Launch) (dD : va_G) (cI cR cS : ClassId) (lo : Nat) (x0 : Nat) (b ra sb hd ol : Nat → Nat) (σ : St) (hI : sI σ) : Met l yX2_rows wsX2_rows ({ frames := 0, cells := 0, slots := 0, locals := 0 }) (ePc dD cI cR cS lo [.ref x0] (fun H => va_P dD vwCl (xW cI cR cS x0 b ra sb hd ol σ) H)) (vp_Si (fun r => r = nI (s_n σ))) 0 0 (fun _ => False) := by
  refine Met.ofW (cc := cX2_rows) (maxL := 1) (ret := (some .int)) (by decide) rfl ?_
  intro p e_ s m args below meth c s₁ B hml hv
  obtain ⟨rfl, hE, hP⟩ := hv
  have hx := B.exec
  have hb := B.bytes
  have hr := B.returns
  have hts := atoms_spec (ws := wsX2_rows) B.pre
  have hown : s.vm.findClass RX2 = some m.cls := findClass_of_methodNamed B.named
  have hlocks := B.notSynchronized
  have hK := hE.1.1
  have hinX2 : ∀ w ∈ u_ws RX2 TX2 9, w ∈ wsX2_rows := by decide +kernel
  obtain ⟨i_now, i_n, i_tk, i_k, i_lt, i_row, i_cp, i_srv⟩ := id hI
  have hl := lv_entry ([.ref x0]) (n := 1) (Nat.le_of_ble_eq_true rfl)
  rw [lg_entry_eq]
  generalize (lg_sl ([.ref x0]) ++ List.replicate (1 - (lg_sl ([.ref x0])).length) Slot.unset).toArray = ls at hl ⊢
  have hl : lv_has ls 1 [(0, .ref x0)] := hl
  refine lv_aload_n hx hb dX2_rows_0 rfl (lv_at hl 0 rfl) ?_
  refine va_get (D := dD) (ci := 2) (v := .int (nI (s_n σ))) (C := RX2) (T := TX2) (N := 9) hx hb hts hinX2 hown hK hP 0 rfl rfl 3 (by decide) (hts (.fieldLink RX2 44 "FeatureStore" "rowCount" "I") (by decide +kernel)) (fun _ h9 => h9) rfl dX2_rows_1 ?_
  exact W.iret (v := nI (s_n σ)) hx hb hr (fun u9 hu9 hW => ⟨nI (s_n σ), rfl, rfl, hu9⟩) (fun q h => absurd h List.not_mem_nil) dX2_rows_4

set_option maxHeartbeats 4000000 in
set_option maxRecDepth 100000 in
theorem c_X2_servings (l : Launch) (dD : va_G) (cI cR cS : ClassId) (lo : Nat) (x0 : Nat) (b ra sb hd ol : Nat → Nat) (σ : St) (hI : sI σ) : Met l yX2_servings wsX2_servings ({ frames := 0, cells := 0, slots := 0, locals := 0 }) (ePc dD cI cR cS lo [.ref x0] (fun H => va_P dD vwCl (xW cI cR cS x0 b ra sb hd ol σ) H)) (vp_Si (fun r => r = nI (s_k σ))) 0 0 (fun _ => False) := by
  refine Met.ofW (cc := cX2_servings) (maxL := 1) (ret := (some .int)) (by decide) rfl ?_
  intro p e_ s m args below meth c s₁ B hml hv
  obtain ⟨rfl, hE, hP⟩ := hv
  have hx := B.exec
  have hb := B.bytes
  have hr := B.returns
  have hts := atoms_spec (ws := wsX2_servings) B.pre
  have hown : s.vm.findClass RX2 = some m.cls := findClass_of_methodNamed B.named
  have hlocks := B.notSynchronized
  have hK := hE.1.1
  have hinX2 : ∀ w ∈ u_ws RX2 TX2 9, w ∈ wsX2_servings := by decide +kernel
  obtain ⟨i_now, i_n, i_tk, i_k, i_lt, i_row, i_cp, i_srv⟩ := id hI
  have hl := lv_entry ([.ref x0]) (n := 1) (Nat.le_of_ble_eq_true rfl)
  rw [lg_entry_eq]
  generalize (lg_sl ([.ref x0]) ++ List.replicate (1 - (lg_sl ([.ref x0])).length) Slot.unset).toArray = ls at hl ⊢
  have hl : lv_has ls 1 [(0, .ref x0)] := hl
  refine lv_aload_n hx hb dX2_servings_0 rfl (lv_at hl 0 rfl) ?_
  refine va_get (D := dD) (ci := 2) (v := .int (nI (s_k σ))) (C := RX2) (T := TX2) (N := 9) hx hb hts hinX2 hown hK hP 0 rfl rfl 8 (by decide) (hts (.fieldLink RX2 114 "FeatureStore" "servingCount" "I") (by decide +kernel)) (fun _ h9 => h9) rfl dX2_servings_1 ?_
  exact W.iret (v := nI (s_k σ)) hx hb hr (fun u9 hu9 hW => ⟨nI (s_k σ), rfl, rfl, hu9⟩) (fun q h => absurd h List.not_mem_nil) dX2_servings_4

set_option maxHeartbeats 4000000 in
set_option maxRecDepth 100000 in
theorem c_X2_lag (l : Launch) (dD : va_G) (cI cR cS : ClassId) (lo : Nat) (x0 : Nat) (b ra sb hd ol : Nat → Nat) (σ : St) (hI : sI σ) : Met l yX2_lag wsX2_lag ({ frames := 0, cells := 0, slots := 0, locals := 0 }) (ePc dD cI cR cS lo [.ref x0] (fun H => va_P dD vwCl (xW cI cR cS x0 b ra sb hd ol σ) H)) (vp_Si (fun r => r = nI (s_n σ - s_tk σ))) 0 0 (fun _ => False) := by
  refine Met.ofW (cc := cX2_lag) (maxL := 1) (ret := (some .int)) (by decide) rfl ?_
  intro p e_ s m args below meth c s₁ B hml hv
  obtain ⟨rfl, hE, hP⟩ := hv
  have hx := B.exec
  have hb := B.bytes
  have hr := B.returns
  have hts := atoms_spec (ws := wsX2_lag) B.pre
  have hown : s.vm.findClass RX2 = some m.cls := findClass_of_methodNamed B.named
  have hlocks := B.notSynchronized
  have hK := hE.1.1
  have hinX2 : ∀ w ∈ u_ws RX2 TX2 9, w ∈ wsX2_lag := by decide +kernel
  obtain ⟨i_now, i_n, i_tk, i_k, i_lt, i_row, i_cp, i_srv⟩ := id hI
  have hl := lv_entry ([.ref x0]) (n := 1) (Nat.le_of_ble_eq_true rfl)
  rw [lg_entry_eq]
  generalize (lg_sl ([.ref x0]) ++ List.replicate (1 - (lg_sl ([.ref x0])).length) Slot.unset).toArray = ls at hl ⊢
  have hl : lv_has ls 1 [(0, .ref x0)] := hl
  refine lv_aload_n hx hb dX2_lag_0 rfl (lv_at hl 0 rfl) ?_
  refine va_get (D := dD) (ci := 2) (v := .int (nI (s_n σ))) (C := RX2) (T := TX2) (N := 9) hx hb hts hinX2 hown hK hP 0 rfl rfl 3 (by decide) (hts (.fieldLink RX2 44 "FeatureStore" "rowCount" "I") (by decide +kernel)) (fun _ h9 => h9) rfl dX2_lag_1 ?_
  refine lv_aload_n hx hb dX2_lag_4 rfl (lv_at hl 0 rfl) ?_
  refine va_get (D := dD) (ci := 2) (v := .int (nI (s_tk σ))) (C := RX2) (T := TX2) (N := 9) hx hb hts hinX2 hown hK hP 0 rfl rfl 6 (by decide) (hts (.fieldLink RX2 102 "FeatureStore" "taken" "I") (by decide +kernel)) (fun _ h9 => h9) rfl dX2_lag_5 ?_
  refine nv_isub hx hb dX2_lag_8 (by omega) ?_
  exact W.iret (v := nI ((s_n σ) - (s_tk σ))) hx hb hr (fun u9 hu9 hW => ⟨nI ((s_n σ) - (s_tk σ)), rfl, rfl, hu9⟩) (fun q h => absurd h List.not_mem_nil) dX2_lag_9

set_option maxHeartbeats 4000000 in
set_option maxRecDepth 100000 in
theorem c_X2_nue0 (l : Launch) (dD : va_G) (cI cR cS : ClassId) (lo : Nat) (x0 : Nat) (b ra sb hd ol : Nat → Nat) (σ : St) (hI : sI σ) (t : Nat) (ht : t ≤ 10000) : Met l yX2_numberUnlessExpired wsX2_numberUnlessExpired ({ frames := 0, cells := 0, slots := 0, locals := 0 }) (ePc dD cI cR cS lo [.ref x0, va_rf (rfN ra 0), .int (nI t)] (fun H => va_P dD vwCl (xW cI cR cS x0 b ra sb hd ol σ) H)) (vp_Si (fun r => r = eN (q_fr σ 0 t))) 0 0 (fun _ => False) := by
  refine Met.ofW (cc := cX2_numberUnlessExpired) (maxL := 3) (ret := (some .int)) (by decide) rfl ?_
  intro p e_ s m args below meth c s₁ B hml hv
  obtain ⟨rfl, hE, hP⟩ := hv
  have hx := B.exec
  have hb := B.bytes
  have hr := B.returns
  have hts := atoms_spec (ws := wsX2_numberUnlessExpired) B.pre
  have hown : s.vm.findClass RX2 = some m.cls := findClass_of_methodNamed B.named
  have hlocks := B.notSynchronized
  have hK := hE.1.1
  obtain ⟨i_now, i_n, i_tk, i_k, i_lt, i_row, i_cp, i_srv⟩ := id hI
  have hl := lv_entry ([.ref x0, va_rf (rfN ra 0), .int (nI t)]) (n := 3) (Nat.le_of_ble_eq_true rfl)
  rw [lg_entry_eq]
  generalize (lg_sl ([.ref x0, va_rf (rfN ra 0), .int (nI t)]) ++ List.replicate (3 - (lg_sl ([.ref x0, va_rf (rfN ra 0), .int (nI t)])).length) Slot.unset).toArray = ls at hl ⊢
  have hl : lv_has ls 3 [(0, .ref x0), (1, va_rf (rfN ra 0)), (2, .int (nI t))] := hl
  have hl : lv_has ls 3 [(0, .ref x0), (1, .null), (2, .int (nI t))] := hl
  refine lv_aload_nN hx hb dX2_numberUnlessExpired_0 rfl (lv_at hl 1 rfl) ?_
  refine lv_ifnullN (tgt := 22) hx hb dX2_numberUnlessExpired_1 (by decide) ?_
  refine lv_iconst (v := (-1)) hx hb dX2_numberUnlessExpired_22 (by decide +kernel) ?_
  exact W.iret (v := ((-1))) hx hb hr (fun u9 hu9 hW => ⟨((-1)), rfl, rfl, hu9⟩) (fun q h => absurd h List.not_mem_nil) dX2_numberUnlessExpired_23

set_option maxHeartbeats 4000000 in
set_option maxRecDepth 100000 in
theorem c_X2_nue1 (l : Launch) (dD : va_G) (cI cR cS : ClassId) (lo : Nat) (x0 : Nat) (b ra sb hd ol : Nat → Nat) (σ : St) (hI : sI σ) (o t : Nat) (ho : o + 1 ≤ s_n σ) (ht : t ≤ 10000) (hev : s_ev σ o ≤ t) : Met l yX2_numberUnlessExpired wsX2_numberUnlessExpired ({ frames := 0, cells := 0, slots := 0, locals := 0 }) (ePc dD cI cR cS lo [.ref x0, va_rf (rfN ra (o + 1)), .int (nI t)] (fun H => va_P dD vwCl (xW cI cR cS x0 b ra sb hd ol σ) H)) (vp_Si (fun r => r = eN (q_fr σ (o + 1) t))) 0 0 (fun _ => False) := by
  refine Met.ofW (cc := cX2_numberUnlessExpired) (maxL := 3) (ret := (some .int)) (by decide) rfl ?_
  intro p e_ s m args below meth c s₁ B hml hv
  obtain ⟨rfl, hE, hP⟩ := hv
  have hx := B.exec
  have hb := B.bytes
  have hr := B.returns
  have hts := atoms_spec (ws := wsX2_numberUnlessExpired) B.pre
  have hown : s.vm.findClass RX2 = some m.cls := findClass_of_methodNamed B.named
  have hlocks := B.notSynchronized
  have hK := hE.1.1
  have hinX0 : ∀ w ∈ u_ws RX0 TX0 7, w ∈ wsX2_numberUnlessExpired := by decide +kernel
  have hinX2 : ∀ w ∈ u_ws RX2 TX2 9, w ∈ wsX2_numberUnlessExpired := by decide +kernel
  obtain ⟨i_now, i_n, i_tk, i_k, i_lt, i_row, i_cp, i_srv⟩ := id hI
  have hl := lv_entry ([.ref x0, va_rf (rfN ra (o + 1)), .int (nI t)]) (n := 3) (Nat.le_of_ble_eq_true rfl)
  rw [lg_entry_eq]
  generalize (lg_sl ([.ref x0, va_rf (rfN ra (o + 1)), .int (nI t)]) ++ List.replicate (3 - (lg_sl ([.ref x0, va_rf (rfN ra (o + 1)), .int (nI t)])).length) Slot.unset).toArray = ls at hl ⊢
  have hl : lv_has ls 3 [(0, .ref x0), (1, va_rf (rfN ra (o + 1))), (2, .int (nI t))] := hl
  have hl : lv_has ls 3 [(0, .ref x0), (1, .ref (ra o)), (2, .int (nI t))] := hl
  have hz_o : o < s_n σ := by omega
  obtain ⟨hz_1, hz_2, hz_3, hz_4⟩ := i_row o hz_o
  have hz_5 := i_lt (s_pr σ o / 10) (by omega)
  have hR := xRow hP hz_o
  refine lv_aload_n hx hb dX2_numberUnlessExpired_0 rfl (lv_at hl 1 rfl) ?_
  refine lv_ifnull hx hb dX2_numberUnlessExpired_1 ?_
  refine lv_iload_n hx hb dX2_numberUnlessExpired_4 rfl (lv_at hl 2 rfl) ?_
  refine lv_aload_n hx hb dX2_numberUnlessExpired_5 rfl (lv_at hl 1 rfl) ?_
  refine va_get (D := dD) (ci := 0) (v := .int (nI (s_ev σ o))) (C := RX0) (T := TX0) (N := 7) hx hb hts hinX0 hown hK hR 0 rfl rfl 3 (by decide) (hts (.fieldLink RX2 76 "FeatureStore$Row" "event" "I") (by decide +kernel)) (fun _ h9 => h9) rfl dX2_numberUnlessExpired_6 ?_
  refine nv_isub hx hb dX2_numberUnlessExpired_9 (by omega) ?_
  refine lv_aload_n hx hb dX2_numberUnlessExpired_10 rfl (lv_at hl 0 rfl) ?_
  refine va_get (D := dD) (ci := 2) (v := .ref (b 0)) (C := RX2) (T := TX2) (N := 9) hx hb hts hinX2 hown hK hP 0 rfl rfl 1 (by decide) (hts (.fieldLink RX2 9 "FeatureStore" "lifetimes" "[I") (by decide +kernel)) (fun _ h9 => h9) rfl dX2_numberUnlessExpired_11 ?_
  refine lv_aload_n hx hb dX2_numberUnlessExpired_14 rfl (lv_at hl 1 rfl) ?_
  refine va_get (D := dD) (ci := 0) (v := .int (nI (s_pr σ o / 10))) (C := RX0) (T := TX0) (N := 7) hx hb hts hinX0 hown hK hR 0 rfl rfl 1 (by decide) (hts (.fieldLink RX2 154 "FeatureStore$Row" "feature" "I") (by decide +kernel)) (fun _ h9 => h9) rfl dX2_numberUnlessExpired_15 ?_
  refine nv_iald (q0 := 1) (t0 := 0) (s_lt σ) hx hb hK hP rfl rfl (by omega) (by decide) dX2_numberUnlessExpired_18 ?_
  refine nv_le (tgt := 24) hx hb dX2_numberUnlessExpired_19 (by decide) (by omega) (by omega) (fun c_19 => ?_) (fun c_19 => ?_)
  · refine lv_aload_n hx hb dX2_numberUnlessExpired_24 rfl (lv_at hl 1 rfl) ?_
    refine va_get (D := dD) (ci := 0) (v := .int (nI o)) (C := RX0) (T := TX0) (N := 7) hx hb hts hinX0 hown hK hR 0 rfl rfl 0 (by decide) (hts (.fieldLink RX2 61 "FeatureStore$Row" "number" "I") (by decide +kernel)) (fun _ h9 => h9) rfl dX2_numberUnlessExpired_25 ?_
    exact W.iret (v := nI o) hx hb hr (fun u9 hu9 hW => ⟨nI o, rfl, by simp only [q_fr, if_neg (Nat.succ_ne_zero o), Nat.add_sub_cancel]; rw [if_pos (by omega)]; rfl, hu9⟩) (fun q h => absurd h List.not_mem_nil) dX2_numberUnlessExpired_28
  · refine lv_iconst (v := (-1)) hx hb dX2_numberUnlessExpired_22 (by decide +kernel) ?_
    exact W.iret (v := ((-1))) hx hb hr (fun u9 hu9 hW => ⟨((-1)), rfl, by simp only [q_fr, if_neg (Nat.succ_ne_zero o), Nat.add_sub_cancel]; rw [if_neg (by omega)]; rfl, hu9⟩) (fun q h => absurd h List.not_mem_nil) dX2_numberUnlessExpired_23

theorem c_X2_nue (l : Launch) (dD : va_G) (cI cR cS : ClassId) (lo : Nat) (x0 : Nat) (b ra sb hd ol : Nat → Nat) (σ : St) (hI : sI σ) (o t : Nat) (ho : o ≤ s_n σ) (ht : t ≤ 10000) (hev : ∀ r, o = r + 1 → s_ev σ r ≤ t) : Met l yX2_numberUnlessExpired wsX2_numberUnlessExpired ({ frames := 0, cells := 0, slots := 0, locals := 0 }) (ePc dD cI cR cS lo [.ref x0, va_rf (rfN ra o), .int (nI t)] (fun H => va_P dD vwCl (xW cI cR cS x0 b ra sb hd ol σ) H)) (vp_Si (fun r => r = eN (q_fr σ o t))) 0 0 (fun _ => False) := by
  cases o with
  | zero => exact c_X2_nue0 l dD cI cR cS lo x0 b ra sb hd ol σ hI t ht
  | succ o => exact c_X2_nue1 l dD cI cR cS lo x0 b ra sb hd ol σ hI o t ho ht (hev o rfl)

set_option maxHeartbeats 4000000 in
set_option maxRecDepth 100000 in
theorem c_X2_find (l : Launch) (dD : va_G) (cI cR cS : ClassId) (lo : Nat) (x0 : Nat) (b ra sb hd ol : Nat → Nat) (σ : St) (hI : sI σ) (hX : xI σ hd ol) (f e t k : Nat) (hf : f < 6) (he : e < 10) (ht : t ≤ 10000) (hk : k ≤ 10000) : Met l yX2_find wsX2_find ({ frames := 1, cells := 0, slots := 0, locals := 22 }) (ePc dD cI cR cS lo [.ref x0, .int (nI f), .int (nI e), .int (nI t), .int (nI k)] (fun H => va_P dD vwCl (xW cI cR cS x0 b ra sb hd ol σ) H)) (vp_Si (fun r => r = eN (q_join σ (10 * f + e) t k))) 0 0 (fun _ => False) := by
  refine Met.ofW (cc := cX2_find) (maxL := 6) (ret := (some .int)) (by decide) rfl ?_
  intro p e_ s m args below meth c s₁ B hml hv
  obtain ⟨rfl, hE, hP⟩ := hv
  have hx := B.exec
  have hb := B.bytes
  have hr := B.returns
  have hts := atoms_spec (ws := wsX2_find) B.pre
  have hown : s.vm.findClass RX2 = some m.cls := findClass_of_methodNamed B.named
  have hlocks := B.notSynchronized
  have hK := hE.1.1
  have hinX0 : ∀ w ∈ u_ws RX0 TX0 7, w ∈ wsX2_find := by decide +kernel
  have hinX2 : ∀ w ∈ u_ws RX2 TX2 9, w ∈ wsX2_find := by decide +kernel
  obtain ⟨i_now, i_n, i_tk, i_k, i_lt, i_row, i_cp, i_srv⟩ := id hI
  have hl := lv_entry ([.ref x0, .int (nI f), .int (nI e), .int (nI t), .int (nI k)]) (n := 6) (Nat.le_of_ble_eq_true rfl)
  rw [lg_entry_eq]
  generalize (lg_sl ([.ref x0, .int (nI f), .int (nI e), .int (nI t), .int (nI k)]) ++ List.replicate (6 - (lg_sl ([.ref x0, .int (nI f), .int (nI e), .int (nI t), .int (nI k)])).length) Slot.unset).toArray = ls at hl ⊢
  have hl : lv_has ls 6 [(0, .ref x0), (1, .int (nI f)), (2, .int (nI e)), (3, .int (nI t)), (4, .int (nI k))] := hl
  refine lv_aload_n hx hb dX2_find_0 rfl (lv_at hl 0 rfl) ?_
  refine va_get (D := dD) (ci := 2) (v := .ref (b 2)) (C := RX2) (T := TX2) (N := 9) hx hb hts hinX2 hown hK hP 0 rfl rfl 4 (by decide) (hts (.fieldLink RX2 19 "FeatureStore" "latest" "[LFeatureStore$Row;") (by decide +kernel)) (fun _ h9 => h9) rfl dX2_find_1 ?_
  refine lv_iload_n hx hb dX2_find_4 rfl (lv_at hl 1 rfl) ?_
  refine lv_iload_n hx hb dX2_find_5 rfl (lv_at hl 2 rfl) ?_
  refine vp_callSi (va_Run.run (va_runS (As := [.int (nI f), .int (nI e)]) (rest := [.ref (b 2)]) ⟨hx, hb, hml, hown, hts⟩ (c_X2_placeOf l dD cI cR cS lo f e) (va_cwS 2 hts gX2_find_X2_placeOf rfl rfl rfl (by decide +kernel) ⟨Nat.le_of_ble_eq_true rfl, Nat.le_of_ble_eq_true rfl⟩) (ePreS hE va_S.rf trivial) rfl rfl hl.1 rfl (lv_room (Nat.le_of_ble_eq_true rfl)) dX2_find_6 ⟨Nat.le_of_ble_eq_true rfl, Nat.le_of_ble_eq_true rfl⟩)) (fun r_6 hr_6 => ?_)
  subst hr_6
  refine nq_aald (q0 := 3) (t0 := 1) (fun j => rfN ra (hd j)) hx hb hK hP rfl rfl (by omega) (by decide) dX2_find_9 ?_
  refine nq_astore (lv' := [(5, va_rf (rfN ra (hd (10 * f + e)))), (0, .ref x0), (1, .int (nI f)), (2, .int (nI e)), (3, .int (nI t)), (4, .int (nI k))]) hx hb dX2_find_10 hl (by decide) rfl (fun ls hl => ?_)
  have hlp : ∀ (li : List Nat) (o : Nat), seg ol o li → (∀ y ∈ li, y < s_n σ) → c_first σ t k li = q_best σ (10 * f + e) t k (s_n σ) → ∀ (ls : Array Slot), lv_has ls 6 [(0, .ref x0), (1, .int (nI f)), (2, .int (nI e)), (3, .int (nI t)), (4, .int (nI k)), (5, va_rf (rfN ra o))] → W p l e_ (headSpec wsX2_find ({ frames := 1, cells := 0, slots := 0, locals := 22 })).room s m (([.ref x0, .int (nI f), .int (nI e), .int (nI t), .int (nI k)] : List Value).toArray) below meth c s.heap [] 0 0 (MQ below (vp_Si (fun r => r = eN (q_join σ (10 * f + e) t k))) ([.ref x0, .int (nI f), .int (nI e), .int (nI t), .int (nI k)] : List Value).toArray s 0 0 (fun _ => False)) (F0 m 12 ls []) := by
    intro li
    induction li with
    | nil =>
      intro o hs_ hm_ hf_ ls hl
      have ho_ : o = 0 := hs_
      subst ho_
      have hl : lv_has ls 6 [(0, .ref x0), (1, .int (nI f)), (2, .int (nI e)), (3, .int (nI t)), (4, .int (nI k)), (5, .null)] := hl
      refine lv_aloadN hx hb dX2_find_12 (lv_at hl 5 rfl) ?_
      refine lv_ifnullN (tgt := 46) hx hb dX2_find_14 (by decide) ?_
      refine lv_aload_n hx hb dX2_find_46 rfl (lv_at hl 0 rfl) ?_
      refine lv_aloadN hx hb dX2_find_47 (lv_at hl 5 rfl) ?_
      refine lv_iload_n hx hb dX2_find_49 rfl (lv_at hl 3 rfl) ?_
      refine vp_callSi (va_Run.run (va_runV (As := [va_rf (rfN ra 0), .int (nI t)]) (rest := []) ⟨hx, hb, hml, hown, hts⟩ (c_X2_nue l dD cI cR cS lo x0 b ra sb hd ol σ hI (0) (t) (by omega) ht (fun r hr => by omega)) (cwV 2 hts gX2_find_X2_numberUnlessExpired rfl rfl rfl (by decide +kernel) ⟨Nat.le_of_ble_eq_true rfl, Nat.le_of_ble_eq_true rfl⟩) (ePreV hE va_S.rf hP (k := 0) rfl rfl hP) rfl rfl hl.1 rfl (lv_room (Nat.le_of_ble_eq_true rfl)) dX2_find_50 ⟨Nat.le_of_ble_eq_true rfl, Nat.le_of_ble_eq_true rfl⟩)) (fun r_50 hr_50 => ?_)
      subst hr_50
      exact W.iret (v := eN (q_fr σ (0) t)) hx hb hr (fun u9 hu9 hW => ⟨eN (q_fr σ (0) t), rfl, by unfold q_join; rw [← hf_]; rfl, hu9⟩) (fun q h => absurd h List.not_mem_nil) dX2_find_53
    | cons x li ih =>
      intro o hs_ hm_ hf_ ls hl
      have ho_ : o = x + 1 := hs_.1
      subst ho_
      have hz_x := hm_ x List.mem_cons_self
      obtain ⟨hz_1, hz_2, hz_3, hz_4⟩ := i_row x hz_x
      have hR := xRow hP hz_x
      have hl : lv_has ls 6 [(0, .ref x0), (1, .int (nI f)), (2, .int (nI e)), (3, .int (nI t)), (4, .int (nI k)), (5, .ref (ra x))] := hl
      refine lv_aload hx hb dX2_find_12 (lv_at hl 5 rfl) ?_
      refine lv_ifnull hx hb dX2_find_14 ?_
      refine lv_aload hx hb dX2_find_17 (lv_at hl 5 rfl) ?_
      refine va_get (D := dD) (ci := 0) (v := .int (nI (s_ev σ x))) (C := RX0) (T := TX0) (N := 7) hx hb hts hinX0 hown hK hR 0 rfl rfl 3 (by decide) (hts (.fieldLink RX2 76 "FeatureStore$Row" "event" "I") (by decide +kernel)) (fun _ h9 => h9) rfl dX2_find_19 ?_
      refine lv_iload_n hx hb dX2_find_22 rfl (lv_at hl 3 rfl) ?_
      refine nv_gt (tgt := 36) hx hb dX2_find_23 (by decide) (by omega) (by omega) (fun c_23 => ?_) (fun c_23 => ?_)
      · refine lv_aload hx hb dX2_find_36 (lv_at hl 5 rfl) ?_
        refine va_get (D := dD) (ci := 0) (v := va_rf (rfN ra (ol x))) (C := RX0) (T := TX0) (N := 7) hx hb hts hinX0 hown hK hR 0 rfl rfl 6 (by decide) (hts (.fieldLink RX2 87 "FeatureStore$Row" "older" "LFeatureStore$Row;") (by decide +kernel)) (fun _ h9 => h9) rfl dX2_find_38 ?_
        refine nq_astore (lv' := [(5, va_rf (rfN ra (ol x))), (0, .ref x0), (1, .int (nI f)), (2, .int (nI e)), (3, .int (nI t)), (4, .int (nI k))]) hx hb dX2_find_41 hl (by decide) rfl (fun ls hl => ?_)
        refine lv_goto (tgt := 12) hx hb dX2_find_43 (by decide) ?_
        exact ih (ol x) hs_.2 (fun y hy => hm_ y (List.mem_cons_of_mem _ hy)) (by rw [← hf_]; simp only [c_first]; rw [if_neg (by omega)]) ls (lv_sub hl [1, 2, 3, 4, 5, 0] rfl)
      · refine lv_aload hx hb dX2_find_26 (lv_at hl 5 rfl) ?_
        refine va_get (D := dD) (ci := 0) (v := .int (nI (s_ar σ x))) (C := RX0) (T := TX0) (N := 7) hx hb hts hinX0 hown hK hR 0 rfl rfl 4 (by decide) (hts (.fieldLink RX2 73 "FeatureStore$Row" "arrival" "I") (by decide +kernel)) (fun _ h9 => h9) rfl dX2_find_28 ?_
        refine lv_iload hx hb dX2_find_31 (lv_at hl 4 rfl) ?_
        refine nv_le (tgt := 46) hx hb dX2_find_33 (by decide) (by omega) (by omega) (fun c_33 => ?_) (fun c_33 => ?_)
        · refine lv_aload_n hx hb dX2_find_46 rfl (lv_at hl 0 rfl) ?_
          refine lv_aload hx hb dX2_find_47 (lv_at hl 5 rfl) ?_
          refine lv_iload_n hx hb dX2_find_49 rfl (lv_at hl 3 rfl) ?_
          refine vp_callSi (va_Run.run (va_runV (As := [va_rf (rfN ra (x + 1)), .int (nI t)]) (rest := []) ⟨hx, hb, hml, hown, hts⟩ (c_X2_nue l dD cI cR cS lo x0 b ra sb hd ol σ hI (x + 1) (t) (by omega) ht (fun r hr => by cases hr; omega)) (cwV 2 hts gX2_find_X2_numberUnlessExpired rfl rfl rfl (by decide +kernel) ⟨Nat.le_of_ble_eq_true rfl, Nat.le_of_ble_eq_true rfl⟩) (ePreV hE va_S.rf hP (k := 0) rfl rfl hP) rfl rfl hl.1 rfl (lv_room (Nat.le_of_ble_eq_true rfl)) dX2_find_50 ⟨Nat.le_of_ble_eq_true rfl, Nat.le_of_ble_eq_true rfl⟩)) (fun r_50 hr_50 => ?_)
          subst hr_50
          exact W.iret (v := eN (q_fr σ (x + 1) t)) hx hb hr (fun u9 hu9 hW => ⟨eN (q_fr σ (x + 1) t), rfl, by unfold q_join; rw [← hf_]; simp only [c_first]; rw [if_pos (by omega)], hu9⟩) (fun q h => absurd h List.not_mem_nil) dX2_find_53
        · refine lv_aload hx hb dX2_find_36 (lv_at hl 5 rfl) ?_
          refine va_get (D := dD) (ci := 0) (v := va_rf (rfN ra (ol x))) (C := RX0) (T := TX0) (N := 7) hx hb hts hinX0 hown hK hR 0 rfl rfl 6 (by decide) (hts (.fieldLink RX2 87 "FeatureStore$Row" "older" "LFeatureStore$Row;") (by decide +kernel)) (fun _ h9 => h9) rfl dX2_find_38 ?_
          refine nq_astore (lv' := [(5, va_rf (rfN ra (ol x))), (0, .ref x0), (1, .int (nI f)), (2, .int (nI e)), (3, .int (nI t)), (4, .int (nI k))]) hx hb dX2_find_41 hl (by decide) rfl (fun ls hl => ?_)
          refine lv_goto (tgt := 12) hx hb dX2_find_43 (by decide) ?_
          exact ih (ol x) hs_.2 (fun y hy => hm_ y (List.mem_cons_of_mem _ hy)) (by rw [← hf_]; simp only [c_first]; rw [if_neg (by omega)]) ls (lv_sub hl [1, 2, 3, 4, 5, 0] rfl)
  exact hlp (chn σ (10 * f + e) (s_n σ)) (hd (10 * f + e)) (hX (10 * f + e) (by omega)) (fun y hy => (mem_chn.mp hy).1) (c_first_best _ _ _ _) ls (lv_sub hl [1, 2, 3, 4, 5, 0] rfl)

set_option maxHeartbeats 4000000 in
set_option maxRecDepth 100000 in
theorem c_X2_tell (l : Launch) (dD : va_G) (cI cR cS : ClassId) (lo : Nat) (x0 : Nat) (b ra sb hd ol : Nat → Nat) (σ : St) (hI : sI σ) (f e : Nat) (hf : f < 6) (he : e < 10) : Met l yX2_tell wsX2_tell ({ frames := 1, cells := 0, slots := 0, locals := 22 }) (ePc dD cI cR cS lo [.ref x0, .int (nI f), .int (nI e)] (fun H => va_P dD vwCl (xW cI cR cS x0 b ra sb hd ol σ) H)) (vp_Si (fun r => r = eN (q_fr σ (s_cp σ (10 * f + e)) (s_now σ)))) 0 0 (fun _ => False) := by
  refine Met.ofW (cc := cX2_tell) (maxL := 3) (ret := (some .int)) (by decide) rfl ?_
  intro p e_ s m args below meth c s₁ B hml hv
  obtain ⟨rfl, hE, hP⟩ := hv
  have hx := B.exec
  have hb := B.bytes
  have hr := B.returns
  have hts := atoms_spec (ws := wsX2_tell) B.pre
  have hown : s.vm.findClass RX2 = some m.cls := findClass_of_methodNamed B.named
  have hlocks := B.notSynchronized
  have hK := hE.1.1
  have hinX2 : ∀ w ∈ u_ws RX2 TX2 9, w ∈ wsX2_tell := by decide +kernel
  obtain ⟨i_now, i_n, i_tk, i_k, i_lt, i_row, i_cp, i_srv⟩ := id hI
  obtain ⟨hz_1, hz_2⟩ := i_cp (10 * f + e) (by omega)
  have hl := lv_entry ([.ref x0, .int (nI f), .int (nI e)]) (n := 3) (Nat.le_of_ble_eq_true rfl)
  rw [lg_entry_eq]
  generalize (lg_sl ([.ref x0, .int (nI f), .int (nI e)]) ++ List.replicate (3 - (lg_sl ([.ref x0, .int (nI f), .int (nI e)])).length) Slot.unset).toArray = ls at hl ⊢
  have hl : lv_has ls 3 [(0, .ref x0), (1, .int (nI f)), (2, .int (nI e))] := hl
  refine lv_aload_n hx hb dX2_tell_0 rfl (lv_at hl 0 rfl) ?_
  refine lv_aload_n hx hb dX2_tell_1 rfl (lv_at hl 0 rfl) ?_
  refine va_get (D := dD) (ci := 2) (v := .ref (b 3)) (C := RX2) (T := TX2) (N := 9) hx hb hts hinX2 hown hK hP 0 rfl rfl 5 (by decide) (hts (.fieldLink RX2 22 "FeatureStore" "onlineCopy" "[LFeatureStore$Row;") (by decide +kernel)) (fun _ h9 => h9) rfl dX2_tell_2 ?_
  refine lv_iload_n hx hb dX2_tell_5 rfl (lv_at hl 1 rfl) ?_
  refine lv_iload_n hx hb dX2_tell_6 rfl (lv_at hl 2 rfl) ?_
  refine vp_callSi (va_Run.run (va_runS (As := [.int (nI f), .int (nI e)]) (rest := [.ref (b 3), .ref x0]) ⟨hx, hb, hml, hown, hts⟩ (c_X2_placeOf l dD cI cR cS lo f e) (va_cwS 2 hts gX2_tell_X2_placeOf rfl rfl rfl (by decide +kernel) ⟨Nat.le_of_ble_eq_true rfl, Nat.le_of_ble_eq_true rfl⟩) (ePreS hE va_S.rf trivial) rfl rfl hl.1 rfl (lv_room (Nat.le_of_ble_eq_true rfl)) dX2_tell_7 ⟨Nat.le_of_ble_eq_true rfl, Nat.le_of_ble_eq_true rfl⟩)) (fun r_7 hr_7 => ?_)
  subst hr_7
  refine nq_aald (q0 := 4) (t0 := 1) (fun j => rfN ra (s_cp σ j)) hx hb hK hP rfl rfl (by omega) (by decide) dX2_tell_10 ?_
  refine lv_aload_n hx hb dX2_tell_11 rfl (lv_at hl 0 rfl) ?_
  refine va_get (D := dD) (ci := 2) (v := .int (nI (s_now σ))) (C := RX2) (T := TX2) (N := 9) hx hb hts hinX2 hown hK hP 0 rfl rfl 0 (by decide) (hts (.fieldLink RX2 35 "FeatureStore" "now" "I") (by decide +kernel)) (fun _ h9 => h9) rfl dX2_tell_12 ?_
  refine vp_callSi (va_Run.run (va_runV (As := [va_rf (rfN ra (s_cp σ (10 * f + e))), .int (nI (s_now σ))]) (rest := []) ⟨hx, hb, hml, hown, hts⟩ (c_X2_nue l dD cI cR cS lo x0 b ra sb hd ol σ hI (s_cp σ (10 * f + e)) (s_now σ) (by omega) (by omega) (fun r hr => by obtain ⟨hy_1, hy_2, hy_3, hy_4⟩ := i_row r (by omega); omega)) (cwV 2 hts gX2_tell_X2_numberUnlessExpired rfl rfl rfl (by decide +kernel) ⟨Nat.le_of_ble_eq_true rfl, Nat.le_of_ble_eq_true rfl⟩) (ePreV hE va_S.rf hP (k := 0) rfl rfl hP) rfl rfl hl.1 rfl (lv_room (Nat.le_of_ble_eq_true rfl)) dX2_tell_15 ⟨Nat.le_of_ble_eq_true rfl, Nat.le_of_ble_eq_true rfl⟩)) (fun r_15 hr_15 => ?_)
  subst hr_15
  exact W.iret (v := eN (q_fr σ (s_cp σ (10 * f + e)) (s_now σ))) hx hb hr (fun u9 hu9 hW => ⟨eN (q_fr σ (s_cp σ (10 * f + e)) (s_now σ)), rfl, rfl, hu9⟩) (fun q h => absurd h List.not_mem_nil) dX2_tell_18
end
section
/-! the class: rows, servings, joins (laid by wip/whole/gen/x2ro2.py) -/
section NVK
variable {p : Program} {l : Launch} {e : Env} {R : Room} {s : State} {m : MethodId} {args : Array Value} {below : List Frame} {meth : Method} {c : Code} {H : Heap} {locs : List Loc} {cells slots : Nat} {Q : State → Prop} {pc : Nat} {ls : Array Slot} {rest st0 : List Value} {a : Array Value} {cc : ByteArray}
theorem nx_callEr {post : Nat → Prop} (hr : CallRun p l e R s m args below meth c H locs cells slots 0 0 (F0 m pc ls st0) rest (eSr post a) (fun _ => False))
    (kk : ∀ r : Nat, post r → W p l e R s m args below meth c H locs cells slots Q (F0 m (pc + 3) ls (.ref r :: rest))) : W p l e R s m args below meth c H locs cells slots Q (F0 m pc ls st0) := by
  intro T hT X
  obtain ⟨v, st₀, t, T', L, h0, X', hL, e1, ⟨r, hv, hp, hh⟩, st⟩ := hr T hT X
  cases hv
  obtain ⟨t2, a1, b1⟩ := kk r hp T' (by rw [e1, hh, h0]) (Stand.forget X' (fun q h => (hL q h).elim))
  exact ⟨t2, st t2 a1, b1⟩
theorem nv_if_lt {x : Nat} {off : Int} {tgt : Nat} (hx : p.tables.exec = Jvm.exec) (hb : c.code = cc) (hdg : decode cc pc = .ok (.ifCond .lt off, 3)) (ht : (pc : Int) + off = (tgt : Int)) (h1 : x < 2 ^ 31)
    (kt : x < 0 → W p l e R s m args below meth c H locs cells slots Q (F0 m tgt ls rest)) (kf : ¬ x < 0 → W p l e R s m args below meth c H locs cells slots Q (F0 m (pc + 3) ls rest)) : W p l e R s m args below meth c H locs cells slots Q (F0 m pc ls (.int (nI x) :: rest)) := lv_if_lt hx hb hdg ht (fun h => kt ((nI_ltI h1 (b := 0) (by decide)).mp h)) (fun h => kf (fun z => h ((nI_ltI h1 (b := 0) (by decide)).mpr z)))
end NVK

set_option maxHeartbeats 4000000 in
set_option maxRecDepth 100000 in
theorem c_X2_rowOrNull (l : Launch) (dD : va_G) (cI cR cS : ClassId) (lo : Nat) (x0 : Nat) (b ra sb hd ol : Nat → Nat) (σ : St) (hI : sI σ) (x : Int32) : Met l yX2_rowOrNull wsX2_rowOrNull ({ frames := 0, cells := 0, slots := 0, locals := 0 }) (ePc dD cI cR cS lo [.ref x0, .int x] (fun H => va_P dD vwCl (xW cI cR cS x0 b ra sb hd ol σ) H)) (va_Sq (fun r => (ri x (s_n σ) ∧ r = some (ra (cl x))) ∨ (¬ ri x (s_n σ) ∧ r = none))) 0 0 (fun _ => False) := by
  refine Met.ofW (cc := cX2_rowOrNull) (maxL := 2) (ret := (some (.object "FeatureStore$Row"))) (by decide) rfl ?_
  intro p e_ s m args below meth c s₁ B hml hv
  obtain ⟨rfl, hE, hP⟩ := hv
  have hx := B.exec
  have hb := B.bytes
  have hr := B.returns
  have hts := atoms_spec (ws := wsX2_rowOrNull) B.pre
  have hown : s.vm.findClass RX2 = some m.cls := findClass_of_methodNamed B.named
  have hlocks := B.notSynchronized
  have hK := hE.1.1
  have hinX2 : ∀ w ∈ u_ws RX2 TX2 9, w ∈ wsX2_rowOrNull := by decide +kernel
  obtain ⟨i_now, i_n, i_tk, i_k, i_lt, i_row, i_cp, i_srv⟩ := id hI
  have hl := lv_entry ([.ref x0, .int x]) (n := 2) (Nat.le_of_ble_eq_true rfl)
  rw [lg_entry_eq]
  generalize (lg_sl ([.ref x0, .int x]) ++ List.replicate (2 - (lg_sl ([.ref x0, .int x])).length) Slot.unset).toArray = ls at hl ⊢
  have hl : lv_has ls 2 [(0, .ref x0), (1, .int x)] := hl
  refine lv_iload_n hx hb dX2_rowOrNull_0 rfl (lv_at hl 1 rfl) ?_
  refine lv_if_lt (tgt := 21) hx hb dX2_rowOrNull_1 (by decide) (fun c_1 => ?_) (fun c_1 => ?_)
  · refine lv_null hx hb dX2_rowOrNull_21 ?_
    exact W.aret (v := va_rf none) hx hb hr (Or.inl ⟨_, rfl⟩) (va_rf_or _) (fun u9 hu9 hW => ⟨none, rfl, Or.inr ⟨fun h => absurd c_1 (Int32.not_lt.mpr h.1), rfl⟩, hu9⟩) (fun q h => absurd h List.not_mem_nil) dX2_rowOrNull_22
  · refine lv_iload_n hx hb dX2_rowOrNull_4 rfl (lv_at hl 1 rfl) ?_
    refine lv_aload_n hx hb dX2_rowOrNull_5 rfl (lv_at hl 0 rfl) ?_
    refine va_get (D := dD) (ci := 2) (v := .int (nI (s_n σ))) (C := RX2) (T := TX2) (N := 9) hx hb hts hinX2 hown hK hP 0 rfl rfl 3 (by decide) (hts (.fieldLink RX2 44 "FeatureStore" "rowCount" "I") (by decide +kernel)) (fun _ h9 => h9) rfl dX2_rowOrNull_6 ?_
    refine lv_icmp_ge (tgt := 21) hx hb dX2_rowOrNull_9 (by decide) (fun c_9 => ?_) (fun c_9 => ?_)
    · refine lv_null hx hb dX2_rowOrNull_21 ?_
      exact W.aret (v := va_rf none) hx hb hr (Or.inl ⟨_, rfl⟩) (va_rf_or _) (fun u9 hu9 hW => ⟨none, rfl, Or.inr ⟨fun h => absurd c_9 (Int32.not_le.mpr h.2), rfl⟩, hu9⟩) (fun q h => absurd h List.not_mem_nil) dX2_rowOrNull_22
    · have hri : ri x (s_n σ) := ⟨Int32.not_lt.mp c_1, Int32.not_le.mp c_9⟩
      obtain ⟨i, hi_, rfl⟩ := ri_of (by omega) hri
      refine lv_aload_n hx hb dX2_rowOrNull_12 rfl (lv_at hl 0 rfl) ?_
      refine va_get (D := dD) (ci := 2) (v := .ref (b 1)) (C := RX2) (T := TX2) (N := 9) hx hb hts hinX2 hown hK hP 0 rfl rfl 2 (by decide) (hts (.fieldLink RX2 15 "FeatureStore" "rows" "[LFeatureStore$Row;") (by decide +kernel)) (fun _ h9 => h9) rfl dX2_rowOrNull_13 ?_
      refine lv_iload_n hx hb dX2_rowOrNull_16 rfl (lv_at hl 1 rfl) ?_
      refine nq_aaldP (q0 := 2) (t0 := 1) (ra) hx hb hK hP rfl rfl (by omega) (by decide) (by omega) dX2_rowOrNull_17 ?_
      refine lv_goto (tgt := 22) hx hb dX2_rowOrNull_18 (by decide) ?_
      exact W.aret (v := va_rf (some (ra i))) hx hb hr (Or.inl ⟨_, rfl⟩) (va_rf_or _) (fun u9 hu9 hW => ⟨some (ra i), rfl, Or.inl ⟨hri, by rw [cl_nI (by omega)]⟩, hu9⟩) (fun q h => absurd h List.not_mem_nil) dX2_rowOrNull_22

set_option maxHeartbeats 4000000 in
set_option maxRecDepth 100000 in
theorem c_X2_requireRow (l : Launch) (dD : va_G) (cI cR cS : ClassId) (lo : Nat) (hfl : l.stackTraces = false) (x0 : Nat) (b ra sb hd ol : Nat → Nat) (σ : St) (hI : sI σ) (x : Int32) : vx_Met l yX2_requireRow wsX2_requireRow ({ frames := 6, cells := 1, slots := 6, locals := 82 }) (ePc dD cI cR cS lo [.ref x0, .int x] (fun H => va_P dD vwCl (xW cI cR cS x0 b ra sb hd ol σ) H)) (eSr (fun q => ri x (s_n σ) ∧ q = ra (cl x))) (eX (fun E => E = nIOB ∧ ¬ ri x (s_n σ))) 1 6 (fun _ => False) := by
  refine vx_ofW (cc := cX2_requireRow) (maxL := 3) (ret := (some (.object "FeatureStore$Row"))) (by decide) rfl ?_
  intro p e_ s m args below meth c s₁ B hml hnt hv
  obtain ⟨rfl, hE, hP⟩ := hv
  have hx := B.exec
  have hb := B.bytes
  have hr := B.returns
  have hts := atoms_spec (ws := wsX2_requireRow) B.pre
  have hown : s.vm.findClass RX2 = some m.cls := findClass_of_methodNamed B.named
  have hlocks := B.notSynchronized
  have hK := hE.1.1
  obtain ⟨i_now, i_n, i_tk, i_k, i_lt, i_row, i_cp, i_srv⟩ := id hI
  have hl := lv_entry ([.ref x0, .int x]) (n := 3) (Nat.le_of_ble_eq_true rfl)
  rw [lg_entry_eq]
  generalize (lg_sl ([.ref x0, .int x]) ++ List.replicate (3 - (lg_sl ([.ref x0, .int x])).length) Slot.unset).toArray = ls at hl ⊢
  have hl : lv_has ls 3 [(0, .ref x0), (1, .int x)] := hl
  refine lv_aload_n hx hb dX2_requireRow_0 rfl (lv_at hl 0 rfl) ?_
  refine lv_iload_n hx hb dX2_requireRow_1 rfl (lv_at hl 1 rfl) ?_
  refine nx_callRr (va_Run.run (va_runV (As := [.int x]) (rest := []) ⟨hx, hb, hml, hown, hts⟩ (c_X2_rowOrNull l dD cI cR cS lo x0 b ra sb hd ol σ hI x) (cwV 1 hts gX2_requireRow_X2_rowOrNull rfl rfl rfl (by decide +kernel) ⟨Nat.le_of_ble_eq_true rfl, Nat.le_of_ble_eq_true rfl⟩) (ePreV hE va_S.rf hP (k := 0) rfl rfl hP) rfl rfl hl.1 rfl (lv_room (Nat.le_of_ble_eq_true rfl)) dX2_requireRow_2 ⟨Nat.le_of_ble_eq_true rfl, Nat.le_of_ble_eq_true rfl⟩)) (fun r_2 hr_2 => ?_)
  rcases hr_2 with ⟨hri, rfl⟩ | ⟨hri, rfl⟩
  · obtain ⟨i, hi_, rfl⟩ := ri_of (by omega) hri
    rw [cl_nI (show i < 2 ^ 31 by omega)]
    refine lv_astore_n (lv' := [(2, .ref (ra i)), (0, .ref x0), (1, .int (nI i))]) hx hb dX2_requireRow_5 rfl hl (by decide) rfl (fun ls hl => ?_)
    refine lv_aload_n hx hb dX2_requireRow_6 rfl (lv_at hl 0 rfl) ?_
    refine lv_ifnonnull (tgt := 20) hx hb dX2_requireRow_7 (by decide) ?_
    refine lv_aload_n hx hb dX2_requireRow_20 rfl (lv_at hl 0 rfl) ?_
    exact vx_ret (W.widen (k := 1) (n := 6) (by decide) (by decide) (W.aret (v := .ref (ra i)) hx hb hr (Or.inl ⟨_, rfl⟩) (Or.inr ⟨_, rfl⟩) (fun u9 hu9 hW => ⟨ra i, rfl, ⟨hri, rfl⟩, hu9⟩) (fun q h => absurd h List.not_mem_nil) dX2_requireRow_21))
  · refine lv_astore_nN (lv' := [(2, .null), (0, .ref x0), (1, .int x)]) hx hb dX2_requireRow_5 rfl hl (by decide) rfl (fun ls hl => ?_)
    refine lv_aload_nN hx hb dX2_requireRow_6 rfl (lv_at hl 0 rfl) ?_
    refine lv_ifnonnullN hx hb dX2_requireRow_7 ?_
    exact nx_throw hx hb hfl hown hml hnt hlocks hts (by decide +kernel) (by decide +kernel) bad_iob ot_iob hE hE.1.2.2.2.2.2.1 hl dX2_requireRow_10 dX2_requireRow_13 dX2_requireRow_14 dX2_requireRow_16 dX2_requireRow_19 (Nat.le_of_ble_eq_true rfl) (Nat.le_of_ble_eq_true rfl) (Nat.le_of_ble_eq_true rfl) (Nat.le_of_ble_eq_true rfl) (⟨rfl, hri⟩) (by decide) (by decide)

set_option maxHeartbeats 4000000 in
set_option maxRecDepth 100000 in
theorem c_X2_value (l : Launch) (dD : va_G) (cI cR cS : ClassId) (lo : Nat) (hfl : l.stackTraces = false) (x0 : Nat) (b ra sb hd ol : Nat → Nat) (σ : St) (hI : sI σ) (x : Int32) : vx_Met l yX2_value wsX2_value ({ frames := 7, cells := 1, slots := 6, locals := 104 }) (ePc dD cI cR cS lo [.ref x0, .int x] (fun H => va_P dD vwCl (xW cI cR cS x0 b ra sb hd ol σ) H)) (vp_Si (fun r => ri x (s_n σ) ∧ r = nI (s_vl σ (cl x)))) (eX (fun E => E = nIOB ∧ ¬ ri x (s_n σ))) 1 6 (fun _ => False) := by
  refine vx_ofW (cc := cX2_value) (maxL := 2) (ret := (some .int)) (by decide) rfl ?_
  intro p e_ s m args below meth c s₁ B hml hnt hv
  obtain ⟨rfl, hE, hP⟩ := hv
  have hx := B.exec
  have hb := B.bytes
  have hr := B.returns
  have hts := atoms_spec (ws := wsX2_value) B.pre
  have hown : s.vm.findClass RX2 = some m.cls := findClass_of_methodNamed B.named
  have hlocks := B.notSynchronized
  have hK := hE.1.1
  have hinX0 : ∀ w ∈ u_ws RX0 TX0 7, w ∈ wsX2_value := by decide +kernel
  obtain ⟨i_now, i_n, i_tk, i_k, i_lt, i_row, i_cp, i_srv⟩ := id hI
  have hl := lv_entry ([.ref x0, .int x]) (n := 2) (Nat.le_of_ble_eq_true rfl)
  rw [lg_entry_eq]
  generalize (lg_sl ([.ref x0, .int x]) ++ List.replicate (2 - (lg_sl ([.ref x0, .int x])).length) Slot.unset).toArray = ls at hl ⊢
  have hl : lv_has ls 2 [(0, .ref x0), (1, .int x)] := hl
  refine lv_aload_n hx hb dX2_value_0 rfl (lv_at hl 0 rfl) ?_
  refine lv_iload_n hx hb dX2_value_1 rfl (lv_at hl 1 rfl) ?_
  refine nx_callr (vx_runV (As := [.int x]) (rest := []) ⟨hx, hb, hml, hown, hts⟩ (c_X2_requireRow l dD cI cR cS lo hfl x0 b ra sb hd ol σ hI x) (cwV 1 hts gX2_value_X2_requireRow rfl rfl rfl (by decide +kernel) ⟨Nat.le_of_ble_eq_true rfl, Nat.le_of_ble_eq_true rfl⟩) (ePreV hE va_S.rf hP (k := 0) rfl rfl hP) rfl rfl hl.1 rfl (lv_room (Nat.le_of_ble_eq_true rfl)) dX2_value_2 ⟨Nat.le_of_ble_eq_true rfl, Nat.le_of_ble_eq_true rfl⟩) (fun E ce q9 H1 hX9 hz9 hk9 hc9 hv9 hf9 => vx_out (fun x hx => (hnt x hx).elim) hlocks hc9 hv9 hf9 (fun t9 ht9 _ => ⟨hX9, by rw [ht9]; exact hz9, fun q hq _ => by rw [ht9]; exact hk9 q hq⟩) (fun z hz => absurd hz List.not_mem_nil) (by decide) (by decide)) (fun r_2 hr_2 => ?_)
  obtain ⟨hri, rfl⟩ := hr_2
  obtain ⟨i, hi_, rfl⟩ := ri_of (by omega) hri
  rw [cl_nI (show i < 2 ^ 31 by omega)]
  obtain ⟨hz_1, hz_2, hz_3, hz_4⟩ := i_row i hi_
  have hR := xRow hP hi_
  refine va_get (D := dD) (ci := 0) (v := .int (nI (s_vl σ i))) (C := RX0) (T := TX0) (N := 7) hx hb hts hinX0 hown hK hR 0 rfl rfl 5 (by decide) (hts (.fieldLink RX2 70 "FeatureStore$Row" "value" "I") (by decide +kernel)) (fun _ h9 => h9) rfl dX2_value_5 ?_
  exact vx_ret (W.widen (k := 1) (n := 6) (by decide) (by decide) (W.iret (v := nI (s_vl σ i)) hx hb hr (fun u9 hu9 hW => ⟨nI (s_vl σ i), rfl, ⟨hri, rfl⟩, hu9⟩) (fun q h => absurd h List.not_mem_nil) dX2_value_8))

set_option maxHeartbeats 4000000 in
set_option maxRecDepth 100000 in
theorem c_X2_late (l : Launch) (dD : va_G) (cI cR cS : ClassId) (lo : Nat) (hfl : l.stackTraces = false) (x0 : Nat) (b ra sb hd ol : Nat → Nat) (σ : St) (hI : sI σ) (x : Int32) : vx_Met l yX2_late wsX2_late ({ frames := 7, cells := 1, slots := 6, locals := 104 }) (ePc dD cI cR cS lo [.ref x0, .int x] (fun H => va_P dD vwCl (xW cI cR cS x0 b ra sb hd ol σ) H)) (vp_Si (fun r => ri x (s_n σ) ∧ r = nI (s_ar σ (cl x) - s_ev σ (cl x)))) (eX (fun E => E = nIOB ∧ ¬ ri x (s_n σ))) 1 6 (fun _ => False) := by
  refine vx_ofW (cc := cX2_late) (maxL := 3) (ret := (some .int)) (by decide) rfl ?_
  intro p e_ s m args below meth c s₁ B hml hnt hv
  obtain ⟨rfl, hE, hP⟩ := hv
  have hx := B.exec
  have hb := B.bytes
  have hr := B.returns
  have hts := atoms_spec (ws := wsX2_late) B.pre
  have hown : s.vm.findClass RX2 = some m.cls := findClass_of_methodNamed B.named
  have hlocks := B.notSynchronized
  have hK := hE.1.1
  have hinX0 : ∀ w ∈ u_ws RX0 TX0 7, w ∈ wsX2_late := by decide +kernel
  obtain ⟨i_now, i_n, i_tk, i_k, i_lt, i_row, i_cp, i_srv⟩ := id hI
  have hl := lv_entry ([.ref x0, .int x]) (n := 3) (Nat.le_of_ble_eq_true rfl)
  rw [lg_entry_eq]
  generalize (lg_sl ([.ref x0, .int x]) ++ List.replicate (3 - (lg_sl ([.ref x0, .int x])).length) Slot.unset).toArray = ls at hl ⊢
  have hl : lv_has ls 3 [(0, .ref x0), (1, .int x)] := hl
  refine lv_aload_n hx hb dX2_late_0 rfl (lv_at hl 0 rfl) ?_
  refine lv_iload_n hx hb dX2_late_1 rfl (lv_at hl 1 rfl) ?_
  refine nx_callr (vx_runV (As := [.int x]) (rest := []) ⟨hx, hb, hml, hown, hts⟩ (c_X2_requireRow l dD cI cR cS lo hfl x0 b ra sb hd ol σ hI x) (cwV 1 hts gX2_late_X2_requireRow rfl rfl rfl (by decide +kernel) ⟨Nat.le_of_ble_eq_true rfl, Nat.le_of_ble_eq_true rfl⟩) (ePreV hE va_S.rf hP (k := 0) rfl rfl hP) rfl rfl hl.1 rfl (lv_room (Nat.le_of_ble_eq_true rfl)) dX2_late_2 ⟨Nat.le_of_ble_eq_true rfl, Nat.le_of_ble_eq_true rfl⟩) (fun E ce q9 H1 hX9 hz9 hk9 hc9 hv9 hf9 => vx_out (fun x hx => (hnt x hx).elim) hlocks hc9 hv9 hf9 (fun t9 ht9 _ => ⟨hX9, by rw [ht9]; exact hz9, fun q hq _ => by rw [ht9]; exact hk9 q hq⟩) (fun z hz => absurd hz List.not_mem_nil) (by decide) (by decide)) (fun r_2 hr_2 => ?_)
  obtain ⟨hri, rfl⟩ := hr_2
  obtain ⟨i, hi_, rfl⟩ := ri_of (by omega) hri
  rw [cl_nI (show i < 2 ^ 31 by omega)]
  obtain ⟨hz_1, hz_2, hz_3, hz_4⟩ := i_row i hi_
  have hR := xRow hP hi_
  refine lv_astore_n (lv' := [(2, .ref (ra i)), (0, .ref x0), (1, .int (nI i))]) hx hb dX2_late_5 rfl hl (by decide) rfl (fun ls hl => ?_)
  refine lv_aload_n hx hb dX2_late_6 rfl (lv_at hl 0 rfl) ?_
  refine va_get (D := dD) (ci := 0) (v := .int (nI (s_ar σ i))) (C := RX0) (T := TX0) (N := 7) hx hb hts hinX0 hown hK hR 0 rfl rfl 4 (by decide) (hts (.fieldLink RX2 73 "FeatureStore$Row" "arrival" "I") (by decide +kernel)) (fun _ h9 => h9) rfl dX2_late_7 ?_
  refine lv_aload_n hx hb dX2_late_10 rfl (lv_at hl 0 rfl) ?_
  refine va_get (D := dD) (ci := 0) (v := .int (nI (s_ev σ i))) (C := RX0) (T := TX0) (N := 7) hx hb hts hinX0 hown hK hR 0 rfl rfl 3 (by decide) (hts (.fieldLink RX2 76 "FeatureStore$Row" "event" "I") (by decide +kernel)) (fun _ h9 => h9) rfl dX2_late_11 ?_
  refine nv_isub hx hb dX2_late_14 (by omega) ?_
  exact vx_ret (W.widen (k := 1) (n := 6) (by decide) (by decide) (W.iret (v := nI ((s_ar σ i) - (s_ev σ i))) hx hb hr (fun u9 hu9 hW => ⟨nI ((s_ar σ i) - (s_ev σ i)), rfl, ⟨hri, rfl⟩, hu9⟩) (fun q h => absurd h List.not_mem_nil) dX2_late_15))

set_option maxHeartbeats 4000000 in
set_option maxRecDepth 100000 in
theorem c_X2_requireServing (l : Launch) (dD : va_G) (cI cR cS : ClassId) (lo : Nat) (hfl : l.stackTraces = false) (x0 : Nat) (b ra sb hd ol : Nat → Nat) (σ : St) (hI : sI σ) (x : Int32) : vx_Met l yX2_requireServing wsX2_requireServing ({ frames := 6, cells := 1, slots := 6, locals := 82 }) (ePc dD cI cR cS lo [.ref x0, .int x] (fun H => va_P dD vwCl (xW cI cR cS x0 b ra sb hd ol σ) H)) (eSr (fun q => ri x (s_k σ) ∧ q = sb (cl x))) (eX (fun E => E = nIOB ∧ ¬ ri x (s_k σ))) 1 6 (fun _ => False) := by
  refine vx_ofW (cc := cX2_requireServing) (maxL := 2) (ret := (some (.object "FeatureStore$Serving"))) (by decide) rfl ?_
  intro p e_ s m args below meth c s₁ B hml hnt hv
  obtain ⟨rfl, hE, hP⟩ := hv
  have hx := B.exec
  have hb := B.bytes
  have hr := B.returns
  have hts := atoms_spec (ws := wsX2_requireServing) B.pre
  have hown : s.vm.findClass RX2 = some m.cls := findClass_of_methodNamed B.named
  have hlocks := B.notSynchronized
  have hK := hE.1.1
  have hinX2 : ∀ w ∈ u_ws RX2 TX2 9, w ∈ wsX2_requireServing := by decide +kernel
  obtain ⟨i_now, i_n, i_tk, i_k, i_lt, i_row, i_cp, i_srv⟩ := id hI
  have hl := lv_entry ([.ref x0, .int x]) (n := 2) (Nat.le_of_ble_eq_true rfl)
  rw [lg_entry_eq]
  generalize (lg_sl ([.ref x0, .int x]) ++ List.replicate (2 - (lg_sl ([.ref x0, .int x])).length) Slot.unset).toArray = ls at hl ⊢
  have hl : lv_has ls 2 [(0, .ref x0), (1, .int x)] := hl
  refine lv_iload_n hx hb dX2_requireServing_0 rfl (lv_at hl 1 rfl) ?_
  refine lv_if_lt (tgt := 21) hx hb dX2_requireServing_1 (by decide) (fun c_1 => ?_) (fun c_1 => ?_)
  · exact nx_throw hx hb hfl hown hml hnt hlocks hts (by decide +kernel) (by decide +kernel) bad_iob ot_iob hE hE.1.2.2.2.2.2.2.1 hl dX2_requireServing_21 dX2_requireServing_24 dX2_requireServing_25 dX2_requireServing_27 dX2_requireServing_30 (Nat.le_of_ble_eq_true rfl) (Nat.le_of_ble_eq_true rfl) (Nat.le_of_ble_eq_true rfl) (Nat.le_of_ble_eq_true rfl) (⟨rfl, fun h => absurd c_1 (Int32.not_lt.mpr h.1)⟩) (by decide) (by decide)
  · refine lv_iload_n hx hb dX2_requireServing_4 rfl (lv_at hl 1 rfl) ?_
    refine lv_aload_n hx hb dX2_requireServing_5 rfl (lv_at hl 0 rfl) ?_
    refine va_get (D := dD) (ci := 2) (v := .int (nI (s_k σ))) (C := RX2) (T := TX2) (N := 9) hx hb hts hinX2 hown hK hP 0 rfl rfl 8 (by decide) (hts (.fieldLink RX2 114 "FeatureStore" "servingCount" "I") (by decide +kernel)) (fun _ h9 => h9) rfl dX2_requireServing_6 ?_
    refine lv_icmp_ge (tgt := 21) hx hb dX2_requireServing_9 (by decide) (fun c_9 => ?_) (fun c_9 => ?_)
    · exact nx_throw hx hb hfl hown hml hnt hlocks hts (by decide +kernel) (by decide +kernel) bad_iob ot_iob hE hE.1.2.2.2.2.2.2.1 hl dX2_requireServing_21 dX2_requireServing_24 dX2_requireServing_25 dX2_requireServing_27 dX2_requireServing_30 (Nat.le_of_ble_eq_true rfl) (Nat.le_of_ble_eq_true rfl) (Nat.le_of_ble_eq_true rfl) (Nat.le_of_ble_eq_true rfl) (⟨rfl, fun h => absurd c_9 (Int32.not_le.mpr h.2)⟩) (by decide) (by decide)
    · have hri : ri x (s_k σ) := ⟨Int32.not_lt.mp c_1, Int32.not_le.mp c_9⟩
      obtain ⟨i, hi_, rfl⟩ := ri_of (by omega) hri
      refine lv_aload_n hx hb dX2_requireServing_12 rfl (lv_at hl 0 rfl) ?_
      refine va_get (D := dD) (ci := 2) (v := .ref (b 4)) (C := RX2) (T := TX2) (N := 9) hx hb hts hinX2 hown hK hP 0 rfl rfl 7 (by decide) (hts (.fieldLink RX2 27 "FeatureStore" "servings" "[LFeatureStore$Serving;") (by decide +kernel)) (fun _ h9 => h9) rfl dX2_requireServing_13 ?_
      refine lv_iload_n hx hb dX2_requireServing_16 rfl (lv_at hl 1 rfl) ?_
      refine nq_aaldP (q0 := 5) (t0 := 2) (sb) hx hb hK hP rfl rfl (by omega) (by decide) (by omega) dX2_requireServing_17 ?_
      refine lv_ifnonnull (tgt := 31) hx hb dX2_requireServing_18 (by decide) ?_
      refine lv_aload_n hx hb dX2_requireServing_31 rfl (lv_at hl 0 rfl) ?_
      refine va_get (D := dD) (ci := 2) (v := .ref (b 4)) (C := RX2) (T := TX2) (N := 9) hx hb hts hinX2 hown hK hP 0 rfl rfl 7 (by decide) (hts (.fieldLink RX2 27 "FeatureStore" "servings" "[LFeatureStore$Serving;") (by decide +kernel)) (fun _ h9 => h9) rfl dX2_requireServing_32 ?_
      refine lv_iload_n hx hb dX2_requireServing_35 rfl (lv_at hl 1 rfl) ?_
      refine nq_aaldP (q0 := 5) (t0 := 2) (sb) hx hb hK hP rfl rfl (by omega) (by decide) (by omega) dX2_requireServing_36 ?_
      exact vx_ret (W.widen (k := 1) (n := 6) (by decide) (by decide) (W.aret (v := .ref (sb i)) hx hb hr (Or.inl ⟨_, rfl⟩) (Or.inr ⟨_, rfl⟩) (fun u9 hu9 hW => ⟨sb i, rfl, ⟨hri, by rw [cl_nI (by omega)]⟩, hu9⟩) (fun q h => absurd h List.not_mem_nil) dX2_requireServing_37))

set_option maxHeartbeats 4000000 in
set_option maxRecDepth 100000 in
theorem c_X2_requireServing_ok (l : Launch) (dD : va_G) (cI cR cS : ClassId) (lo : Nat) (x0 : Nat) (b ra sb hd ol : Nat → Nat) (σ : St) (hI : sI σ) (i : Nat) (hi_ : i < s_k σ) : Met l yX2_requireServing wsX2_requireServing ({ frames := 0, cells := 0, slots := 0, locals := 0 }) (ePc dD cI cR cS lo [.ref x0, .int (nI i)] (fun H => va_P dD vwCl (xW cI cR cS x0 b ra sb hd ol σ) H)) (eSr (fun q => q = sb i)) 0 0 (fun _ => False) := by
  refine Met.ofW (cc := cX2_requireServing) (maxL := 2) (ret := (some (.object "FeatureStore$Serving"))) (by decide) rfl ?_
  intro p e_ s m args below meth c s₁ B hml hv
  obtain ⟨rfl, hE, hP⟩ := hv
  have hx := B.exec
  have hb := B.bytes
  have hr := B.returns
  have hts := atoms_spec (ws := wsX2_requireServing) B.pre
  have hown : s.vm.findClass RX2 = some m.cls := findClass_of_methodNamed B.named
  have hlocks := B.notSynchronized
  have hK := hE.1.1
  have hinX2 : ∀ w ∈ u_ws RX2 TX2 9, w ∈ wsX2_requireServing := by decide +kernel
  obtain ⟨i_now, i_n, i_tk, i_k, i_lt, i_row, i_cp, i_srv⟩ := id hI
  have hl := lv_entry ([.ref x0, .int (nI i)]) (n := 2) (Nat.le_of_ble_eq_true rfl)
  rw [lg_entry_eq]
  generalize (lg_sl ([.ref x0, .int (nI i)]) ++ List.replicate (2 - (lg_sl ([.ref x0, .int (nI i)])).length) Slot.unset).toArray = ls at hl ⊢
  have hl : lv_has ls 2 [(0, .ref x0), (1, .int (nI i))] := hl
  refine lv_iload_n hx hb dX2_requireServing_0 rfl (lv_at hl 1 rfl) ?_
  refine nv_if_lt (tgt := 21) hx hb dX2_requireServing_1 (by decide) (by omega) (fun c_1 => absurd c_1 (by omega)) (fun c_1 => ?_)
  refine lv_iload_n hx hb dX2_requireServing_4 rfl (lv_at hl 1 rfl) ?_
  refine lv_aload_n hx hb dX2_requireServing_5 rfl (lv_at hl 0 rfl) ?_
  refine va_get (D := dD) (ci := 2) (v := .int (nI (s_k σ))) (C := RX2) (T := TX2) (N := 9) hx hb hts hinX2 hown hK hP 0 rfl rfl 8 (by decide) (hts (.fieldLink RX2 114 "FeatureStore" "servingCount" "I") (by decide +kernel)) (fun _ h9 => h9) rfl dX2_requireServing_6 ?_
  refine nv_ge (tgt := 21) hx hb dX2_requireServing_9 (by decide) (by omega) (by omega) (fun c_9 => absurd c_9 (by omega)) (fun c_9 => ?_)
  refine lv_aload_n hx hb dX2_requireServing_12 rfl (lv_at hl 0 rfl) ?_
  refine va_get (D := dD) (ci := 2) (v := .ref (b 4)) (C := RX2) (T := TX2) (N := 9) hx hb hts hinX2 hown hK hP 0 rfl rfl 7 (by decide) (hts (.fieldLink RX2 27 "FeatureStore" "servings" "[LFeatureStore$Serving;") (by decide +kernel)) (fun _ h9 => h9) rfl dX2_requireServing_13 ?_
  refine lv_iload_n hx hb dX2_requireServing_16 rfl (lv_at hl 1 rfl) ?_
  refine nq_aaldP (q0 := 5) (t0 := 2) (sb) hx hb hK hP rfl rfl (by omega) (by decide) (by omega) dX2_requireServing_17 ?_
  refine lv_ifnonnull (tgt := 31) hx hb dX2_requireServing_18 (by decide) ?_
  refine lv_aload_n hx hb dX2_requireServing_31 rfl (lv_at hl 0 rfl) ?_
  refine va_get (D := dD) (ci := 2) (v := .ref (b 4)) (C := RX2) (T := TX2) (N := 9) hx hb hts hinX2 hown hK hP 0 rfl rfl 7 (by decide) (hts (.fieldLink RX2 27 "FeatureStore" "servings" "[LFeatureStore$Serving;") (by decide +kernel)) (fun _ h9 => h9) rfl dX2_requireServing_32 ?_
  refine lv_iload_n hx hb dX2_requireServing_35 rfl (lv_at hl 1 rfl) ?_
  refine nq_aaldP (q0 := 5) (t0 := 2) (sb) hx hb hK hP rfl rfl (by omega) (by decide) (by omega) dX2_requireServing_36 ?_
  exact W.aret (v := .ref (sb i)) hx hb hr (Or.inl ⟨_, rfl⟩) (Or.inr ⟨_, rfl⟩) (fun u9 hu9 hW => ⟨sb i, rfl, rfl, hu9⟩) (fun q h => absurd h List.not_mem_nil) dX2_requireServing_37

set_option maxHeartbeats 4000000 in
set_option maxRecDepth 100000 in
theorem c_X2_served (l : Launch) (dD : va_G) (cI cR cS : ClassId) (lo : Nat) (hfl : l.stackTraces = false) (x0 : Nat) (b ra sb hd ol : Nat → Nat) (σ : St) (hI : sI σ) (x : Int32) : vx_Met l yX2_served wsX2_served ({ frames := 7, cells := 1, slots := 6, locals := 103 }) (ePc dD cI cR cS lo [.ref x0, .int x] (fun H => va_P dD vwCl (xW cI cR cS x0 b ra sb hd ol σ) H)) (vp_Si (fun r => ri x (s_k σ) ∧ r = eN (s_sv σ (cl x)))) (eX (fun E => E = nIOB ∧ ¬ ri x (s_k σ))) 1 6 (fun _ => False) := by
  refine vx_ofW (cc := cX2_served) (maxL := 2) (ret := (some .int)) (by decide) rfl ?_
  intro p e_ s m args below meth c s₁ B hml hnt hv
  obtain ⟨rfl, hE, hP⟩ := hv
  have hx := B.exec
  have hb := B.bytes
  have hr := B.returns
  have hts := atoms_spec (ws := wsX2_served) B.pre
  have hown : s.vm.findClass RX2 = some m.cls := findClass_of_methodNamed B.named
  have hlocks := B.notSynchronized
  have hK := hE.1.1
  have hinX1 : ∀ w ∈ u_ws RX1 TX1 4, w ∈ wsX2_served := by decide +kernel
  obtain ⟨i_now, i_n, i_tk, i_k, i_lt, i_row, i_cp, i_srv⟩ := id hI
  have hl := lv_entry ([.ref x0, .int x]) (n := 2) (Nat.le_of_ble_eq_true rfl)
  rw [lg_entry_eq]
  generalize (lg_sl ([.ref x0, .int x]) ++ List.replicate (2 - (lg_sl ([.ref x0, .int x])).length) Slot.unset).toArray = ls at hl ⊢
  have hl : lv_has ls 2 [(0, .ref x0), (1, .int x)] := hl
  refine lv_aload_n hx hb dX2_served_0 rfl (lv_at hl 0 rfl) ?_
  refine lv_iload_n hx hb dX2_served_1 rfl (lv_at hl 1 rfl) ?_
  refine nx_callr (vx_runV (As := [.int x]) (rest := []) ⟨hx, hb, hml, hown, hts⟩ (c_X2_requireServing l dD cI cR cS lo hfl x0 b ra sb hd ol σ hI x) (cwV 1 hts gX2_served_X2_requireServing rfl rfl rfl (by decide +kernel) ⟨Nat.le_of_ble_eq_true rfl, Nat.le_of_ble_eq_true rfl⟩) (ePreV hE va_S.rf hP (k := 0) rfl rfl hP) rfl rfl hl.1 rfl (lv_room (Nat.le_of_ble_eq_true rfl)) dX2_served_2 ⟨Nat.le_of_ble_eq_true rfl, Nat.le_of_ble_eq_true rfl⟩) (fun E ce q9 H1 hX9 hz9 hk9 hc9 hv9 hf9 => vx_out (fun x hx => (hnt x hx).elim) hlocks hc9 hv9 hf9 (fun t9 ht9 _ => ⟨hX9, by rw [ht9]; exact hz9, fun q hq _ => by rw [ht9]; exact hk9 q hq⟩) (fun z hz => absurd hz List.not_mem_nil) (by decide) (by decide)) (fun r_2 hr_2 => ?_)
  obtain ⟨hri, rfl⟩ := hr_2
  obtain ⟨i, hi_, rfl⟩ := ri_of (by omega) hri
  rw [cl_nI (show i < 2 ^ 31 by omega)]
  obtain ⟨hz_1, hz_2, hz_3⟩ := i_srv i hi_
  have hV := xSrv hP hi_
  refine va_get (D := dD) (ci := 1) (v := .int (eN (s_sv σ i))) (C := RX1) (T := TX1) (N := 4) hx hb hts hinX1 hown hK hV 0 rfl rfl 3 (by decide) (hts (.fieldLink RX2 126 "FeatureStore$Serving" "row" "I") (by decide +kernel)) (fun _ h9 => h9) rfl dX2_served_5 ?_
  exact vx_ret (W.widen (k := 1) (n := 6) (by decide) (by decide) (W.iret (v := eN (s_sv σ i)) hx hb hr (fun u9 hu9 hW => ⟨eN (s_sv σ i), rfl, ⟨hri, rfl⟩, hu9⟩) (fun q h => absurd h List.not_mem_nil) dX2_served_8))

set_option maxHeartbeats 4000000 in
set_option maxRecDepth 100000 in
theorem c_X2_isSound (l : Launch) (dD : va_G) (cI cR cS : ClassId) (lo : Nat) (hfl : l.stackTraces = false) (x0 : Nat) (b ra sb hd ol : Nat → Nat) (σ : St) (hI : sI σ) (hX : xI σ hd ol) (x : Int32) : vx_Met l yX2_isSound wsX2_isSound ({ frames := 7, cells := 1, slots := 6, locals := 103 }) (ePc dD cI cR cS lo [.ref x0, .int x] (fun H => va_P dD vwCl (xW cI cR cS x0 b ra sb hd ol σ) H)) (vp_Si (fun r => ri x (s_k σ) ∧ r = nI (q_snd σ (cl x)))) (eX (fun E => E = nIOB ∧ ¬ ri x (s_k σ))) 1 6 (fun _ => False) := by
  refine vx_ofW (cc := cX2_isSound) (maxL := 3) (ret := (some .boolean)) (by decide) rfl ?_
  intro p e_ s m args below meth c s₁ B hml hnt hv
  obtain ⟨rfl, hE, hP⟩ := hv
  have hx := B.exec
  have hb := B.bytes
  have hr := B.returns
  have hts := atoms_spec (ws := wsX2_isSound) B.pre
  have hown : s.vm.findClass RX2 = some m.cls := findClass_of_methodNamed B.named
  have hlocks := B.notSynchronized
  have hK := hE.1.1
  have hinX1 : ∀ w ∈ u_ws RX1 TX1 4, w ∈ wsX2_isSound := by decide +kernel
  obtain ⟨i_now, i_n, i_tk, i_k, i_lt, i_row, i_cp, i_srv⟩ := id hI
  have hl := lv_entry ([.ref x0, .int x]) (n := 3) (Nat.le_of_ble_eq_true rfl)
  rw [lg_entry_eq]
  generalize (lg_sl ([.ref x0, .int x]) ++ List.replicate (3 - (lg_sl ([.ref x0, .int x])).length) Slot.unset).toArray = ls at hl ⊢
  have hl : lv_has ls 3 [(0, .ref x0), (1, .int x)] := hl
  refine lv_aload_n hx hb dX2_isSound_0 rfl (lv_at hl 0 rfl) ?_
  refine lv_iload_n hx hb dX2_isSound_1 rfl (lv_at hl 1 rfl) ?_
  refine nx_callr (vx_runV (As := [.int x]) (rest := []) ⟨hx, hb, hml, hown, hts⟩ (c_X2_requireServing l dD cI cR cS lo hfl x0 b ra sb hd ol σ hI x) (cwV 1 hts gX2_isSound_X2_requireServing rfl rfl rfl (by decide +kernel) ⟨Nat.le_of_ble_eq_true rfl, Nat.le_of_ble_eq_true rfl⟩) (ePreV hE va_S.rf hP (k := 0) rfl rfl hP) rfl rfl hl.1 rfl (lv_room (Nat.le_of_ble_eq_true rfl)) dX2_isSound_2 ⟨Nat.le_of_ble_eq_true rfl, Nat.le_of_ble_eq_true rfl⟩) (fun E ce q9 H1 hX9 hz9 hk9 hc9 hv9 hf9 => vx_out (fun x hx => (hnt x hx).elim) hlocks hc9 hv9 hf9 (fun t9 ht9 _ => ⟨hX9, by rw [ht9]; exact hz9, fun q hq _ => by rw [ht9]; exact hk9 q hq⟩) (fun z hz => absurd hz List.not_mem_nil) (by decide) (by decide)) (fun r_2 hr_2 => ?_)
  obtain ⟨hri, rfl⟩ := hr_2
  obtain ⟨i, hi_, rfl⟩ := ri_of (by omega) hri
  rw [cl_nI (show i < 2 ^ 31 by omega)]
  obtain ⟨hz_1, hz_2, hz_3⟩ := i_srv i hi_
  have hV := xSrv hP hi_
  have hz_j := q_join_le σ (s_sp σ i) (s_sa σ i) (s_sa σ i)
  refine lv_astore_n (lv' := [(2, .ref (sb i)), (0, .ref x0), (1, .int (nI i))]) hx hb dX2_isSound_5 rfl hl (by decide) rfl (fun ls hl => ?_)
  refine lv_aload_n hx hb dX2_isSound_6 rfl (lv_at hl 0 rfl) ?_
  refine va_get (D := dD) (ci := 1) (v := .int (eN (s_sv σ i))) (C := RX1) (T := TX1) (N := 4) hx hb hts hinX1 hown hK hV 0 rfl rfl 3 (by decide) (hts (.fieldLink RX2 126 "FeatureStore$Serving" "row" "I") (by decide +kernel)) (fun _ h9 => h9) rfl dX2_isSound_7 ?_
  refine lv_aload_n hx hb dX2_isSound_10 rfl (lv_at hl 1 rfl) ?_
  refine lv_aload_n hx hb dX2_isSound_11 rfl (lv_at hl 0 rfl) ?_
  refine va_get (D := dD) (ci := 1) (v := .int (nI (s_sp σ i / 10))) (C := RX1) (T := TX1) (N := 4) hx hb hts hinX1 hown hK hV 0 rfl rfl 0 (by decide) (hts (.fieldLink RX2 129 "FeatureStore$Serving" "feature" "I") (by decide +kernel)) (fun _ h9 => h9) rfl dX2_isSound_12 ?_
  refine lv_aload_n hx hb dX2_isSound_15 rfl (lv_at hl 0 rfl) ?_
  refine va_get (D := dD) (ci := 1) (v := .int (nI (s_sp σ i % 10))) (C := RX1) (T := TX1) (N := 4) hx hb hts hinX1 hown hK hV 0 rfl rfl 1 (by decide) (hts (.fieldLink RX2 132 "FeatureStore$Serving" "entity" "I") (by decide +kernel)) (fun _ h9 => h9) rfl dX2_isSound_16 ?_
  refine lv_aload_n hx hb dX2_isSound_19 rfl (lv_at hl 0 rfl) ?_
  refine va_get (D := dD) (ci := 1) (v := .int (nI (s_sa σ i))) (C := RX1) (T := TX1) (N := 4) hx hb hts hinX1 hown hK hV 0 rfl rfl 2 (by decide) (hts (.fieldLink RX2 135 "FeatureStore$Serving" "time" "I") (by decide +kernel)) (fun _ h9 => h9) rfl dX2_isSound_20 ?_
  refine lv_aload_n hx hb dX2_isSound_23 rfl (lv_at hl 0 rfl) ?_
  refine va_get (D := dD) (ci := 1) (v := .int (nI (s_sa σ i))) (C := RX1) (T := TX1) (N := 4) hx hb hts hinX1 hown hK hV 0 rfl rfl 2 (by decide) (hts (.fieldLink RX2 135 "FeatureStore$Serving" "time" "I") (by decide +kernel)) (fun _ h9 => h9) rfl dX2_isSound_24 ?_
  refine vp_callSi (va_Run.run (va_runV (As := [.int (nI (s_sp σ i / 10)), .int (nI (s_sp σ i % 10)), .int (nI (s_sa σ i)), .int (nI (s_sa σ i))]) (rest := [.int (eN (s_sv σ i))]) ⟨hx, hb, hml, hown, hts⟩ (c_X2_find l dD cI cR cS lo x0 b ra sb hd ol σ hI hX (s_sp σ i / 10) (s_sp σ i % 10) (s_sa σ i) (s_sa σ i) (by omega) (by omega) (by omega) (by omega)) (cwV 4 hts gX2_isSound_X2_find rfl rfl rfl (by decide +kernel) ⟨Nat.le_of_ble_eq_true rfl, Nat.le_of_ble_eq_true rfl⟩) (ePreV hE va_S.rf hP (k := 0) rfl rfl hP) rfl rfl hl.1 rfl (lv_room (Nat.le_of_ble_eq_true rfl)) dX2_isSound_27 ⟨Nat.le_of_ble_eq_true rfl, Nat.le_of_ble_eq_true rfl⟩)) (fun r_27 hr_27 => ?_)
  rw [show 10 * (s_sp σ i / 10) + (s_sp σ i % 10) = s_sp σ i from by omega] at hr_27
  subst hr_27
  refine nv_neN (tgt := 37) hx hb dX2_isSound_30 (by decide) (by omega) (by omega) (fun c_30 => ?_) (fun c_30 => ?_)
  · refine lv_iconst (v := nI 0) hx hb dX2_isSound_37 (by decide +kernel) ?_
    exact vx_ret (W.widen (k := 1) (n := 6) (by decide) (by decide) (W.zret (v := nI 0) hx hb hr rfl (fun u9 hu9 hW => ⟨nI 0, rfl, ⟨hri, by rw [q_snd, if_neg c_30]⟩, hu9⟩) (fun q h => absurd h List.not_mem_nil) dX2_isSound_38))
  · refine lv_iconst (v := nI 1) hx hb dX2_isSound_33 (by decide +kernel) ?_
    refine lv_goto (tgt := 38) hx hb dX2_isSound_34 (by decide) ?_
    exact vx_ret (W.widen (k := 1) (n := 6) (by decide) (by decide) (W.zret (v := nI 1) hx hb hr rfl (fun u9 hu9 hW => ⟨nI 1, rfl, ⟨hri, by rw [q_snd, if_pos c_30]⟩, hu9⟩) (fun q h => absurd h List.not_mem_nil) dX2_isSound_38))

set_option maxHeartbeats 4000000 in
set_option maxRecDepth 100000 in
theorem c_X2_isSound_ok (l : Launch) (dD : va_G) (cI cR cS : ClassId) (lo : Nat) (x0 : Nat) (b ra sb hd ol : Nat → Nat) (σ : St) (hI : sI σ) (hX : xI σ hd ol) (i : Nat) (hi_ : i < s_k σ) : Met l yX2_isSound wsX2_isSound ({ frames := 2, cells := 0, slots := 0, locals := 47 }) (ePc dD cI cR cS lo [.ref x0, .int (nI i)] (fun H => va_P dD vwCl (xW cI cR cS x0 b ra sb hd ol σ) H)) (vp_Si (fun r => r = nI (q_snd σ i))) 0 0 (fun _ => False) := by
  refine Met.ofW (cc := cX2_isSound) (maxL := 3) (ret := (some .boolean)) (by decide) rfl ?_
  intro p e_ s m args below meth c s₁ B hml hv
  obtain ⟨rfl, hE, hP⟩ := hv
  have hx := B.exec
  have hb := B.bytes
  have hr := B.returns
  have hts := atoms_spec (ws := wsX2_isSound) B.pre
  have hown : s.vm.findClass RX2 = some m.cls := findClass_of_methodNamed B.named
  have hlocks := B.notSynchronized
  have hK := hE.1.1
  have hinX1 : ∀ w ∈ u_ws RX1 TX1 4, w ∈ wsX2_isSound := by decide +kernel
  obtain ⟨i_now, i_n, i_tk, i_k, i_lt, i_row, i_cp, i_srv⟩ := id hI
  have hl := lv_entry ([.ref x0, .int (nI i)]) (n := 3) (Nat.le_of_ble_eq_true rfl)
  rw [lg_entry_eq]
  generalize (lg_sl ([.ref x0, .int (nI i)]) ++ List.replicate (3 - (lg_sl ([.ref x0, .int (nI i)])).length) Slot.unset).toArray = ls at hl ⊢
  have hl : lv_has ls 3 [(0, .ref x0), (1, .int (nI i))] := hl
  refine lv_aload_n hx hb dX2_isSound_0 rfl (lv_at hl 0 rfl) ?_
  refine lv_iload_n hx hb dX2_isSound_1 rfl (lv_at hl 1 rfl) ?_
  refine nx_callEr (va_Run.run (va_runV (As := [.int (nI i)]) (rest := []) ⟨hx, hb, hml, hown, hts⟩ (c_X2_requireServing_ok l dD cI cR cS lo x0 b ra sb hd ol σ hI i hi_) (cwV 1 hts gX2_isSound_X2_requireServing rfl rfl rfl (by decide +kernel) ⟨Nat.le_of_ble_eq_true rfl, Nat.le_of_ble_eq_true rfl⟩) (ePreV hE va_S.rf hP (k := 0) rfl rfl hP) rfl rfl hl.1 rfl (lv_room (Nat.le_of_ble_eq_true rfl)) dX2_isSound_2 ⟨Nat.le_of_ble_eq_true rfl, Nat.le_of_ble_eq_true rfl⟩)) (fun r_2 hr_2 => ?_)
  subst hr_2
  obtain ⟨hz_1, hz_2, hz_3⟩ := i_srv i hi_
  have hV := xSrv hP hi_
  have hz_j := q_join_le σ (s_sp σ i) (s_sa σ i) (s_sa σ i)
  refine lv_astore_n (lv' := [(2, .ref (sb i)), (0, .ref x0), (1, .int (nI i))]) hx hb dX2_isSound_5 rfl hl (by decide) rfl (fun ls hl => ?_)
  refine lv_aload_n hx hb dX2_isSound_6 rfl (lv_at hl 0 rfl) ?_
  refine va_get (D := dD) (ci := 1) (v := .int (eN (s_sv σ i))) (C := RX1) (T := TX1) (N := 4) hx hb hts hinX1 hown hK hV 0 rfl rfl 3 (by decide) (hts (.fieldLink RX2 126 "FeatureStore$Serving" "row" "I") (by decide +kernel)) (fun _ h9 => h9) rfl dX2_isSound_7 ?_
  refine lv_aload_n hx hb dX2_isSound_10 rfl (lv_at hl 1 rfl) ?_
  refine lv_aload_n hx hb dX2_isSound_11 rfl (lv_at hl 0 rfl) ?_
  refine va_get (D := dD) (ci := 1) (v := .int (nI (s_sp σ i / 10))) (C := RX1) (T := TX1) (N := 4) hx hb hts hinX1 hown hK hV 0 rfl rfl 0 (by decide) (hts (.fieldLink RX2 129 "FeatureStore$Serving" "feature" "I") (by decide +kernel)) (fun _ h9 => h9) rfl dX2_isSound_12 ?_
  refine lv_aload_n hx hb dX2_isSound_15 rfl (lv_at hl 0 rfl) ?_
  refine va_get (D := dD) (ci := 1) (v := .int (nI (s_sp σ i % 10))) (C := RX1) (T := TX1) (N := 4) hx hb hts hinX1 hown hK hV 0 rfl rfl 1 (by decide) (hts (.fieldLink RX2 132 "FeatureStore$Serving" "entity" "I") (by decide +kernel)) (fun _ h9 => h9) rfl dX2_isSound_16 ?_
  refine lv_aload_n hx hb dX2_isSound_19 rfl (lv_at hl 0 rfl) ?_
  refine va_get (D := dD) (ci := 1) (v := .int (nI (s_sa σ i))) (C := RX1) (T := TX1) (N := 4) hx hb hts hinX1 hown hK hV 0 rfl rfl 2 (by decide) (hts (.fieldLink RX2 135 "FeatureStore$Serving" "time" "I") (by decide +kernel)) (fun _ h9 => h9) rfl dX2_isSound_20 ?_
  refine lv_aload_n hx hb dX2_isSound_23 rfl (lv_at hl 0 rfl) ?_
  refine va_get (D := dD) (ci := 1) (v := .int (nI (s_sa σ i))) (C := RX1) (T := TX1) (N := 4) hx hb hts hinX1 hown hK hV 0 rfl rfl 2 (by decide) (hts (.fieldLink RX2 135 "FeatureStore$Serving" "time" "I") (by decide +kernel)) (fun _ h9 => h9) rfl dX2_isSound_24 ?_
  refine vp_callSi (va_Run.run (va_runV (As := [.int (nI (s_sp σ i / 10)), .int (nI (s_sp σ i % 10)), .int (nI (s_sa σ i)), .int (nI (s_sa σ i))]) (rest := [.int (eN (s_sv σ i))]) ⟨hx, hb, hml, hown, hts⟩ (c_X2_find l dD cI cR cS lo x0 b ra sb hd ol σ hI hX (s_sp σ i / 10) (s_sp σ i % 10) (s_sa σ i) (s_sa σ i) (by omega) (by omega) (by omega) (by omega)) (cwV 4 hts gX2_isSound_X2_find rfl rfl rfl (by decide +kernel) ⟨Nat.le_of_ble_eq_true rfl, Nat.le_of_ble_eq_true rfl⟩) (ePreV hE va_S.rf hP (k := 0) rfl rfl hP) rfl rfl hl.1 rfl (lv_room (Nat.le_of_ble_eq_true rfl)) dX2_isSound_27 ⟨Nat.le_of_ble_eq_true rfl, Nat.le_of_ble_eq_true rfl⟩)) (fun r_27 hr_27 => ?_)
  rw [show 10 * (s_sp σ i / 10) + (s_sp σ i % 10) = s_sp σ i from by omega] at hr_27
  subst hr_27
  refine nv_neN (tgt := 37) hx hb dX2_isSound_30 (by decide) (by omega) (by omega) (fun c_30 => ?_) (fun c_30 => ?_)
  · refine lv_iconst (v := nI 0) hx hb dX2_isSound_37 (by decide +kernel) ?_
    exact W.zret (v := nI 0) hx hb hr rfl (fun u9 hu9 hW => ⟨nI 0, rfl, by rw [q_snd, if_neg c_30], hu9⟩) (fun q h => absurd h List.not_mem_nil) dX2_isSound_38
  · refine lv_iconst (v := nI 1) hx hb dX2_isSound_33 (by decide +kernel) ?_
    refine lv_goto (tgt := 38) hx hb dX2_isSound_34 (by decide) ?_
    exact W.zret (v := nI 1) hx hb hr rfl (fun u9 hu9 hW => ⟨nI 1, rfl, by rw [q_snd, if_pos c_30], hu9⟩) (fun q h => absurd h List.not_mem_nil) dX2_isSound_38

set_option maxHeartbeats 4000000 in
set_option maxRecDepth 100000 in
theorem c_X2_unsound (l : Launch) (dD : va_G) (cI cR cS : ClassId) (lo : Nat) (x0 : Nat) (b ra sb hd ol : Nat → Nat) (σ : St) (hI : sI σ) (hX : xI σ hd ol) : Met l yX2_unsound wsX2_unsound ({ frames := 3, cells := 0, slots := 0, locals := 69 }) (ePc dD cI cR cS lo [.ref x0] (fun H => va_P dD vwCl (xW cI cR cS x0 b ra sb hd ol σ) H)) (vp_Si (fun r => r = nI (q_uns σ (s_k σ)))) 0 0 (fun _ => False) := by
  refine Met.ofW (cc := cX2_unsound) (maxL := 3) (ret := (some .int)) (by decide) rfl ?_
  intro p e_ s m args below meth c s₁ B hml hv
  obtain ⟨rfl, hE, hP⟩ := hv
  have hx := B.exec
  have hb := B.bytes
  have hr := B.returns
  have hts := atoms_spec (ws := wsX2_unsound) B.pre
  have hown : s.vm.findClass RX2 = some m.cls := findClass_of_methodNamed B.named
  have hlocks := B.notSynchronized
  have hK := hE.1.1
  have hinX2 : ∀ w ∈ u_ws RX2 TX2 9, w ∈ wsX2_unsound := by decide +kernel
  obtain ⟨i_now, i_n, i_tk, i_k, i_lt, i_row, i_cp, i_srv⟩ := id hI
  have hl := lv_entry ([.ref x0]) (n := 3) (Nat.le_of_ble_eq_true rfl)
  rw [lg_entry_eq]
  generalize (lg_sl ([.ref x0]) ++ List.replicate (3 - (lg_sl ([.ref x0])).length) Slot.unset).toArray = ls at hl ⊢
  have hl : lv_has ls 3 [(0, .ref x0)] := hl
  refine lv_iconst (v := nI 0) hx hb dX2_unsound_0 (by decide +kernel) ?_
  refine lv_istore_n (lv' := [(1, .int (nI 0)), (0, .ref x0)]) hx hb dX2_unsound_1 rfl hl (by decide) rfl (fun ls hl => ?_)
  refine lv_iconst (v := nI 0) hx hb dX2_unsound_2 (by decide +kernel) ?_
  refine lv_istore_n (lv' := [(2, .int (nI 0)), (1, .int (nI 0)), (0, .ref x0)]) hx hb dX2_unsound_3 rfl hl (by decide) rfl (fun ls hl => ?_)
  have hlp : ∀ (d : Nat) (i : Nat), i ≤ s_k σ → s_k σ < i + d → ∀ (ls : Array Slot), lv_has ls 3 [(0, .ref x0), (1, .int (nI (q_uns σ i))), (2, .int (nI i))] → W p l e_ (headSpec wsX2_unsound ({ frames := 3, cells := 0, slots := 0, locals := 69 })).room s m (([.ref x0] : List Value).toArray) below meth c s.heap [] 0 0 (MQ below (vp_Si (fun r => r = nI (q_uns σ (s_k σ)))) ([.ref x0] : List Value).toArray s 0 0 (fun _ => False)) (F0 m 4 ls []) := by
    intro d
    induction d with
    | zero =>
      intro i hr1 hr2 ls hl
      exact absurd hr2 (by omega)
    | succ d ih =>
      intro i hr1 hr2 ls hl
      refine lv_iload_n hx hb dX2_unsound_4 rfl (lv_at hl 2 rfl) ?_
      refine lv_aload_n hx hb dX2_unsound_5 rfl (lv_at hl 0 rfl) ?_
      refine va_get (D := dD) (ci := 2) (v := .int (nI (s_k σ))) (C := RX2) (T := TX2) (N := 9) hx hb hts hinX2 hown hK hP 0 rfl rfl 8 (by decide) (hts (.fieldLink RX2 114 "FeatureStore" "servingCount" "I") (by decide +kernel)) (fun _ h9 => h9) rfl dX2_unsound_6 ?_
      refine nv_ge (tgt := 29) hx hb dX2_unsound_9 (by decide) (by omega) (by omega) (fun c_9 => ?_) (fun c_9 => ?_)
      · have hre : i = s_k σ := by omega
        subst hre
        have hl : lv_has ls 3 [(1, .int (nI (q_uns σ (s_k σ))))] := lv_sub hl [1] rfl
        refine lv_iload_n hx hb dX2_unsound_29 rfl (lv_at hl 0 rfl) ?_
        exact W.iret (v := nI (q_uns σ (s_k σ))) hx hb hr (fun u9 hu9 hW => ⟨nI (q_uns σ (s_k σ)), rfl, rfl, hu9⟩) (fun q h => absurd h List.not_mem_nil) dX2_unsound_30
      · refine lv_aload_n hx hb dX2_unsound_12 rfl (lv_at hl 0 rfl) ?_
        refine lv_iload_n hx hb dX2_unsound_13 rfl (lv_at hl 2 rfl) ?_
        refine vp_callSi (va_Run.run (va_runV (As := [.int (nI i)]) (rest := []) ⟨hx, hb, hml, hown, hts⟩ (c_X2_isSound_ok l dD cI cR cS lo x0 b ra sb hd ol σ hI hX i (by omega)) (cwV 1 hts gX2_unsound_X2_isSound rfl rfl rfl (by decide +kernel) ⟨Nat.le_of_ble_eq_true rfl, Nat.le_of_ble_eq_true rfl⟩) (ePreV hE va_S.rf hP (k := 0) rfl rfl hP) rfl rfl hl.1 rfl (lv_room (Nat.le_of_ble_eq_true rfl)) dX2_unsound_14 ⟨Nat.le_of_ble_eq_true rfl, Nat.le_of_ble_eq_true rfl⟩)) (fun r_14 hr_14 => ?_)
        subst hr_14
        have hz_q : q_snd σ i = 0 ∨ q_snd σ i = 1 := by unfold q_snd; split <;> simp
        refine nv_if_ne (tgt := 23) hx hb dX2_unsound_17 (by decide) (by omega) (fun c_17 => ?_) (fun c_17 => ?_)
        · refine lv_iinc (v := nI (i + 1)) (lv' := [(2, .int (nI (i + 1))), (0, .ref x0), (1, .int (nI (q_uns σ i)))]) hx hb dX2_unsound_23 hl (k := 2) rfl (nv_inc _ 1) (by decide) rfl (fun ls hl => ?_)
          refine lv_goto (tgt := 4) hx hb dX2_unsound_26 (by decide) ?_
          exact ih (i + 1) (by omega) (by omega) ls (by rw [show q_uns σ (i + 1) = q_uns σ i from by simp only [q_uns]; unfold q_snd at c_17; split at c_17 <;> split <;> omega]; exact lv_sub hl [1, 2, 0] rfl)
        · refine lv_iinc (v := nI (q_uns σ i + 1)) (lv' := [(1, .int (nI (q_uns σ i + 1))), (0, .ref x0), (2, .int (nI i))]) hx hb dX2_unsound_20 hl (k := 1) rfl (nv_inc _ 1) (by decide) rfl (fun ls hl => ?_)
          refine lv_iinc (v := nI (i + 1)) (lv' := [(2, .int (nI (i + 1))), (1, .int (nI (q_uns σ i + 1))), (0, .ref x0)]) hx hb dX2_unsound_23 hl (k := 2) rfl (nv_inc _ 1) (by decide) rfl (fun ls hl => ?_)
          refine lv_goto (tgt := 4) hx hb dX2_unsound_26 (by decide) ?_
          exact ih (i + 1) (by omega) (by omega) ls (by rw [show q_uns σ (i + 1) = q_uns σ i + 1 from by simp only [q_uns]; unfold q_snd at c_17; split at c_17 <;> split <;> omega]; exact lv_sub hl [2, 1, 0] rfl)
  exact hlp (s_k σ + 1) 0 (Nat.zero_le _) (by omega) ls (lv_sub hl [2, 1, 0] rfl)


set_option maxHeartbeats 4000000 in
set_option maxRecDepth 100000 in
theorem c_X2_join (l : Launch) (dD : va_G) (cI cR cS : ClassId) (lo : Nat) (hfl : l.stackTraces = false) (x0 : Nat) (b ra sb hd ol : Nat → Nat) (σ : St) (hI : sI σ) (hX : xI σ hd ol) (f e t k : Int32) : vx_Met l yX2_join wsX2_join ({ frames := 8, cells := 4, slots := 24, locals := 125 }) (ePc dD cI cR cS lo [.ref x0, .int f, .int e, .int t, .int k] (fun H => va_P dD vwCl (xW cI cR cS x0 b ra sb hd ol σ) H)) (vp_Si (fun r => (okP f e ∧ rg t 0 10000 ∧ rg k 0 (s_now σ)) ∧ r = eN (q_join σ (plN f e) (cl t) (cl k)))) (eX (fun E => E = nIAE ∧ ¬ (okP f e ∧ rg t 0 10000 ∧ rg k 0 (s_now σ)))) 4 24 (fun _ => False) := by
  refine vx_ofW (cc := cX2_join) (maxL := 5) (ret := (some .int)) (by decide) rfl ?_
  intro p e_ s m args below meth c s₁ B hml hnt hv
  obtain ⟨rfl, hE, hP⟩ := hv
  have hx := B.exec
  have hb := B.bytes
  have hr := B.returns
  have hts := atoms_spec (ws := wsX2_join) B.pre
  have hown : s.vm.findClass RX2 = some m.cls := findClass_of_methodNamed B.named
  have hlocks := B.notSynchronized
  have hK := hE.1.1
  have hinX2 : ∀ w ∈ u_ws RX2 TX2 9, w ∈ wsX2_join := by decide +kernel
  obtain ⟨i_now, i_n, i_tk, i_k, i_lt, i_row, i_cp, i_srv⟩ := id hI
  have hl := lv_entry ([.ref x0, .int f, .int e, .int t, .int k]) (n := 5) (Nat.le_of_ble_eq_true rfl)
  rw [lg_entry_eq]
  generalize (lg_sl ([.ref x0, .int f, .int e, .int t, .int k]) ++ List.replicate (5 - (lg_sl ([.ref x0, .int f, .int e, .int t, .int k])).length) Slot.unset).toArray = ls at hl ⊢
  have hl : lv_has ls 5 [(0, .ref x0), (1, .int f), (2, .int e), (3, .int t), (4, .int k)] := hl
  refine lv_iload_n hx hb dX2_join_0 rfl (lv_at hl 1 rfl) ?_
  refine lv_iload_n hx hb dX2_join_1 rfl (lv_at hl 2 rfl) ?_
  refine nx_callv (vx_runS (As := [.int f, .int e]) (rest := []) ⟨hx, hb, hml, hown, hts⟩ (c_X2_requirePair l dD cI cR cS lo hfl f e) (va_cwS 2 hts gX2_join_X2_requirePair rfl rfl rfl (by decide +kernel) ⟨Nat.le_of_ble_eq_true rfl, Nat.le_of_ble_eq_true rfl⟩) (ePreS hE va_S.rf trivial) rfl rfl hl.1 rfl (lv_room (Nat.le_of_ble_eq_true rfl)) dX2_join_2 ⟨Nat.le_of_ble_eq_true rfl, Nat.le_of_ble_eq_true rfl⟩) (fun E ce q9 H1 hX9 hz9 hk9 hc9 hv9 hf9 => vx_out (fun x hx => (hnt x hx).elim) hlocks hc9 hv9 hf9 (fun t9 ht9 _ => ⟨⟨hX9.1, fun h => hX9.2 (h.1)⟩, by rw [ht9]; exact hz9, fun q hq _ => by rw [ht9]; exact hk9 q hq⟩) (fun z hz => absurd hz List.not_mem_nil) (by decide) (by decide)) (fun hr_2 => ?_)
  refine lv_iload_n hx hb dX2_join_5 rfl (lv_at hl 3 rfl) ?_
  refine lv_iconst (v := nI 0) hx hb dX2_join_6 (by decide +kernel) ?_
  refine lv_sipush (v := nI 10000) hx hb dX2_join_7 (by decide +kernel) ?_
  refine nx_callv (vx_runS (As := [.int t, .int (nI 0), .int (nI 10000)]) (rest := []) ⟨hx, hb, hml, hown, hts⟩ (c_X2_requireRange l dD cI cR cS lo hfl t (nI 0) (nI 10000)) (va_cwS 3 hts gX2_join_X2_requireRange rfl rfl rfl (by decide +kernel) ⟨Nat.le_of_ble_eq_true rfl, Nat.le_of_ble_eq_true rfl⟩) (ePreS hE va_S.rf trivial) rfl rfl hl.1 rfl (lv_room (Nat.le_of_ble_eq_true rfl)) dX2_join_10 ⟨Nat.le_of_ble_eq_true rfl, Nat.le_of_ble_eq_true rfl⟩) (fun E ce q9 H1 hX9 hz9 hk9 hc9 hv9 hf9 => vx_out (fun x hx => (hnt x hx).elim) hlocks hc9 hv9 hf9 (fun t9 ht9 _ => ⟨⟨hX9.1, fun h => hX9.2 (h.2.1)⟩, by rw [ht9]; exact hz9, fun q hq _ => by rw [ht9]; exact hk9 q hq⟩) (fun z hz => absurd hz List.not_mem_nil) (by decide) (by decide)) (fun hr_10 => ?_)
  refine lv_iload hx hb dX2_join_13 (lv_at hl 4 rfl) ?_
  refine lv_iconst (v := nI 0) hx hb dX2_join_15 (by decide +kernel) ?_
  refine lv_aload_n hx hb dX2_join_16 rfl (lv_at hl 0 rfl) ?_
  refine va_get (D := dD) (ci := 2) (v := .int (nI (s_now σ))) (C := RX2) (T := TX2) (N := 9) hx hb hts hinX2 hown hK hP 0 rfl rfl 0 (by decide) (hts (.fieldLink RX2 35 "FeatureStore" "now" "I") (by decide +kernel)) (fun _ h9 => h9) rfl dX2_join_17 ?_
  refine nx_callv (vx_runS (As := [.int k, .int (nI 0), .int (nI (s_now σ))]) (rest := []) ⟨hx, hb, hml, hown, hts⟩ (c_X2_requireRange l dD cI cR cS lo hfl k (nI 0) (nI (s_now σ))) (va_cwS 3 hts gX2_join_X2_requireRange rfl rfl rfl (by decide +kernel) ⟨Nat.le_of_ble_eq_true rfl, Nat.le_of_ble_eq_true rfl⟩) (ePreS hE va_S.rf trivial) rfl rfl hl.1 rfl (lv_room (Nat.le_of_ble_eq_true rfl)) dX2_join_20 ⟨Nat.le_of_ble_eq_true rfl, Nat.le_of_ble_eq_true rfl⟩) (fun E ce q9 H1 hX9 hz9 hk9 hc9 hv9 hf9 => vx_out (fun x hx => (hnt x hx).elim) hlocks hc9 hv9 hf9 (fun t9 ht9 _ => ⟨⟨hX9.1, fun h => hX9.2 (h.2.2)⟩, by rw [ht9]; exact hz9, fun q hq _ => by rw [ht9]; exact hk9 q hq⟩) (fun z hz => absurd hz List.not_mem_nil) (by decide) (by decide)) (fun hr_20 => ?_)
  obtain ⟨fn, hfn1, hfn2, rfl⟩ := rg_of (by decide) (by decide) (hr_2.1)
  obtain ⟨en, hen1, hen2, rfl⟩ := rg_of (by decide) (by decide) (hr_2.2)
  obtain ⟨tn, htn1, htn2, rfl⟩ := rg_of (by decide) (by decide) (hr_10)
  obtain ⟨kn, hkn1, hkn2, rfl⟩ := rg_of (by decide) (by omega) (hr_20)
  refine lv_aload_n hx hb dX2_join_23 rfl (lv_at hl 0 rfl) ?_
  refine lv_iload_n hx hb dX2_join_24 rfl (lv_at hl 1 rfl) ?_
  refine lv_iload_n hx hb dX2_join_25 rfl (lv_at hl 2 rfl) ?_
  refine lv_iload_n hx hb dX2_join_26 rfl (lv_at hl 3 rfl) ?_
  refine lv_iload hx hb dX2_join_27 (lv_at hl 4 rfl) ?_
  refine vp_callSi (va_Run.run (va_runV (As := [.int (nI fn), .int (nI en), .int (nI tn), .int (nI kn)]) (rest := []) ⟨hx, hb, hml, hown, hts⟩ (c_X2_find l dD cI cR cS lo x0 b ra sb hd ol σ hI hX (fn) (en) (tn) (kn) (by omega) (by omega) (by omega) (by omega)) (cwV 4 hts gX2_join_X2_find rfl rfl rfl (by decide +kernel) ⟨Nat.le_of_ble_eq_true rfl, Nat.le_of_ble_eq_true rfl⟩) (ePreV hE va_S.rf hP (k := 0) rfl rfl hP) rfl rfl hl.1 rfl (lv_room (Nat.le_of_ble_eq_true rfl)) dX2_join_29 ⟨Nat.le_of_ble_eq_true rfl, Nat.le_of_ble_eq_true rfl⟩)) (fun r_29 hr_29 => ?_)
  subst hr_29
  exact vx_ret (W.widen (k := 4) (n := 24) (by decide) (by decide) (W.iret (v := eN (q_join σ (10 * fn + en) (tn) (kn))) hx hb hr (fun u9 hu9 hW => ⟨eN (q_join σ (10 * fn + en) (tn) (kn)), rfl, ⟨⟨hr_2, hr_10, hr_20⟩, by rw [plN, cl_nI (by omega), cl_nI (by omega), cl_nI (by omega), cl_nI (by omega)]⟩, hu9⟩) (fun q h => absurd h List.not_mem_nil) dX2_join_32))

set_option maxHeartbeats 4000000 in
set_option maxRecDepth 100000 in
theorem c_X2_online (l : Launch) (dD : va_G) (cI cR cS : ClassId) (lo : Nat) (hfl : l.stackTraces = false) (x0 : Nat) (b ra sb hd ol : Nat → Nat) (σ : St) (hI : sI σ) (f e : Int32) : vx_Met l yX2_online wsX2_online ({ frames := 8, cells := 2, slots := 12, locals := 125 }) (ePc dD cI cR cS lo [.ref x0, .int f, .int e] (fun H => va_P dD vwCl (xW cI cR cS x0 b ra sb hd ol σ) H)) (vp_Si (fun r => okP f e ∧ r = eN (q_fr σ (s_cp σ (plN f e)) (s_now σ)))) (eX (fun E => E = nIAE ∧ ¬ okP f e)) 2 12 (fun _ => False) := by
  refine vx_ofW (cc := cX2_online) (maxL := 3) (ret := (some .int)) (by decide) rfl ?_
  intro p e_ s m args below meth c s₁ B hml hnt hv
  obtain ⟨rfl, hE, hP⟩ := hv
  have hx := B.exec
  have hb := B.bytes
  have hr := B.returns
  have hts := atoms_spec (ws := wsX2_online) B.pre
  have hown : s.vm.findClass RX2 = some m.cls := findClass_of_methodNamed B.named
  have hlocks := B.notSynchronized
  have hK := hE.1.1
  obtain ⟨i_now, i_n, i_tk, i_k, i_lt, i_row, i_cp, i_srv⟩ := id hI
  have hl := lv_entry ([.ref x0, .int f, .int e]) (n := 3) (Nat.le_of_ble_eq_true rfl)
  rw [lg_entry_eq]
  generalize (lg_sl ([.ref x0, .int f, .int e]) ++ List.replicate (3 - (lg_sl ([.ref x0, .int f, .int e])).length) Slot.unset).toArray = ls at hl ⊢
  have hl : lv_has ls 3 [(0, .ref x0), (1, .int f), (2, .int e)] := hl
  refine lv_iload_n hx hb dX2_online_0 rfl (lv_at hl 1 rfl) ?_
  refine lv_iload_n hx hb dX2_online_1 rfl (lv_at hl 2 rfl) ?_
  refine nx_callv (vx_runS (As := [.int f, .int e]) (rest := []) ⟨hx, hb, hml, hown, hts⟩ (c_X2_requirePair l dD cI cR cS lo hfl f e) (va_cwS 2 hts gX2_online_X2_requirePair rfl rfl rfl (by decide +kernel) ⟨Nat.le_of_ble_eq_true rfl, Nat.le_of_ble_eq_true rfl⟩) (ePreS hE va_S.rf trivial) rfl rfl hl.1 rfl (lv_room (Nat.le_of_ble_eq_true rfl)) dX2_online_2 ⟨Nat.le_of_ble_eq_true rfl, Nat.le_of_ble_eq_true rfl⟩) (fun E ce q9 H1 hX9 hz9 hk9 hc9 hv9 hf9 => vx_out (fun x hx => (hnt x hx).elim) hlocks hc9 hv9 hf9 (fun t9 ht9 _ => ⟨⟨hX9.1, fun h => hX9.2 (h)⟩, by rw [ht9]; exact hz9, fun q hq _ => by rw [ht9]; exact hk9 q hq⟩) (fun z hz => absurd hz List.not_mem_nil) (by decide) (by decide)) (fun hr_2 => ?_)
  obtain ⟨fn, hfn1, hfn2, rfl⟩ := rg_of (by decide) (by decide) (hr_2.1)
  obtain ⟨en, hen1, hen2, rfl⟩ := rg_of (by decide) (by decide) (hr_2.2)
  refine lv_aload_n hx hb dX2_online_5 rfl (lv_at hl 0 rfl) ?_
  refine lv_iload_n hx hb dX2_online_6 rfl (lv_at hl 1 rfl) ?_
  refine lv_iload_n hx hb dX2_online_7 rfl (lv_at hl 2 rfl) ?_
  refine vp_callSi (va_Run.run (va_runV (As := [.int (nI fn), .int (nI en)]) (rest := []) ⟨hx, hb, hml, hown, hts⟩ (c_X2_tell l dD cI cR cS lo x0 b ra sb hd ol σ hI (fn) (en) (by omega) (by omega)) (cwV 2 hts gX2_online_X2_tell rfl rfl rfl (by decide +kernel) ⟨Nat.le_of_ble_eq_true rfl, Nat.le_of_ble_eq_true rfl⟩) (ePreV hE va_S.rf hP (k := 0) rfl rfl hP) rfl rfl hl.1 rfl (lv_room (Nat.le_of_ble_eq_true rfl)) dX2_online_8 ⟨Nat.le_of_ble_eq_true rfl, Nat.le_of_ble_eq_true rfl⟩)) (fun r_8 hr_8 => ?_)
  subst hr_8
  exact vx_ret (W.widen (k := 2) (n := 12) (by decide) (by decide) (W.iret (v := eN (q_fr σ (s_cp σ (10 * fn + en)) (s_now σ))) hx hb hr (fun u9 hu9 hW => ⟨eN (q_fr σ (s_cp σ (10 * fn + en)) (s_now σ)), rfl, ⟨hr_2, by rw [plN, cl_nI (by omega), cl_nI (by omega)]⟩, hu9⟩) (fun q h => absurd h List.not_mem_nil) dX2_online_11))
end
section
/-! the class: windows, tiles, revised, skew (laid by wip/whole/gen/x2ro3.py) -/
theorem c_mb_mono {x y T : Nat} (h : x ≤ y) : c_mb x T ≤ c_mb y T := Nat.div_le_div_right (by omega)
theorem c_sum_all {σ : St} (hI : sI σ) (q : Nat) : c_sum σ 0 10000 (chn σ q (s_n σ)) ≤ 20000000 := by
  rw [c_sum_sum]
  have h := q_sum_le hI q 0 10000 (s_n σ) (Nat.le_refl _)
  have h2 := hI.2.1
  omega

set_option maxHeartbeats 4000000 in
set_option maxRecDepth 100000 in
theorem c_X2_window (l : Launch) (dD : va_G) (cI cR cS : ClassId) (lo : Nat) (hfl : l.stackTraces = false) (x0 : Nat) (b ra sb hd ol : Nat → Nat) (σ : St) (hI : sI σ) (hX : xI σ hd ol) (f e x y : Int32) : vx_Met l yX2_window wsX2_window ({ frames := 8, cells := 4, slots := 24, locals := 125 }) (ePc dD cI cR cS lo [.ref x0, .int f, .int e, .int x, .int y] (fun H => va_P dD vwCl (xW cI cR cS x0 b ra sb hd ol σ) H)) (vp_Si (fun r => (okP f e ∧ rg x 0 10000 ∧ rg y (cl x) 10000) ∧ r = nI (q_sum σ (plN f e) (cl x) (cl y) (s_n σ)))) (eX (fun E => E = nIAE ∧ ¬ (okP f e ∧ rg x 0 10000 ∧ rg y (cl x) 10000))) 4 24 (fun _ => False) := by
  refine vx_ofW (cc := cX2_window) (maxL := 7) (ret := (some .int)) (by decide) rfl ?_
  intro p e_ s m args below meth c s₁ B hml hnt hv
  obtain ⟨rfl, hE, hP⟩ := hv
  have hx := B.exec
  have hb := B.bytes
  have hr := B.returns
  have hts := atoms_spec (ws := wsX2_window) B.pre
  have hown : s.vm.findClass RX2 = some m.cls := findClass_of_methodNamed B.named
  have hlocks := B.notSynchronized
  have hK := hE.1.1
  have hinX0 : ∀ w ∈ u_ws RX0 TX0 7, w ∈ wsX2_window := by decide +kernel
  have hinX2 : ∀ w ∈ u_ws RX2 TX2 9, w ∈ wsX2_window := by decide +kernel
  obtain ⟨i_now, i_n, i_tk, i_k, i_lt, i_row, i_cp, i_srv⟩ := id hI
  have hl := lv_entry ([.ref x0, .int f, .int e, .int x, .int y]) (n := 7) (Nat.le_of_ble_eq_true rfl)
  rw [lg_entry_eq]
  generalize (lg_sl ([.ref x0, .int f, .int e, .int x, .int y]) ++ List.replicate (7 - (lg_sl ([.ref x0, .int f, .int e, .int x, .int y])).length) Slot.unset).toArray = ls at hl ⊢
  have hl : lv_has ls 7 [(0, .ref x0), (1, .int f), (2, .int e), (3, .int x), (4, .int y)] := hl
  refine lv_iload_n hx hb dX2_window_0 rfl (lv_at hl 1 rfl) ?_
  refine lv_iload_n hx hb dX2_window_1 rfl (lv_at hl 2 rfl) ?_
  refine nx_callv (vx_runS (As := [.int f, .int e]) (rest := []) ⟨hx, hb, hml, hown, hts⟩ (c_X2_requirePair l dD cI cR cS lo hfl f e) (va_cwS 2 hts gX2_window_X2_requirePair rfl rfl rfl (by decide +kernel) ⟨Nat.le_of_ble_eq_true rfl, Nat.le_of_ble_eq_true rfl⟩) (ePreS hE va_S.rf trivial) rfl rfl hl.1 rfl (lv_room (Nat.le_of_ble_eq_true rfl)) dX2_window_2 ⟨Nat.le_of_ble_eq_true rfl, Nat.le_of_ble_eq_true rfl⟩) (fun E ce q9 H1 hX9 hz9 hk9 hc9 hv9 hf9 => vx_out (fun x hx => (hnt x hx).elim) hlocks hc9 hv9 hf9 (fun t9 ht9 _ => ⟨⟨hX9.1, fun h => hX9.2 h.1⟩, by rw [ht9]; exact hz9, fun q hq _ => by rw [ht9]; exact hk9 q hq⟩) (fun z hz => absurd hz List.not_mem_nil) (by decide) (by decide)) (fun hr_2 => ?_)
  refine lv_iload_n hx hb dX2_window_5 rfl (lv_at hl 3 rfl) ?_
  refine lv_iconst (v := nI 0) hx hb dX2_window_6 (by decide +kernel) ?_
  refine lv_sipush (v := nI 10000) hx hb dX2_window_7 (by decide +kernel) ?_
  refine nx_callv (vx_runS (As := [.int x, .int (nI 0), .int (nI 10000)]) (rest := []) ⟨hx, hb, hml, hown, hts⟩ (c_X2_requireRange l dD cI cR cS lo hfl x (nI 0) (nI 10000)) (va_cwS 3 hts gX2_window_X2_requireRange rfl rfl rfl (by decide +kernel) ⟨Nat.le_of_ble_eq_true rfl, Nat.le_of_ble_eq_true rfl⟩) (ePreS hE va_S.rf trivial) rfl rfl hl.1 rfl (lv_room (Nat.le_of_ble_eq_true rfl)) dX2_window_10 ⟨Nat.le_of_ble_eq_true rfl, Nat.le_of_ble_eq_true rfl⟩) (fun E ce q9 H1 hX9 hz9 hk9 hc9 hv9 hf9 => vx_out (fun x hx => (hnt x hx).elim) hlocks hc9 hv9 hf9 (fun t9 ht9 _ => ⟨⟨hX9.1, fun h => hX9.2 h.2.1⟩, by rw [ht9]; exact hz9, fun q hq _ => by rw [ht9]; exact hk9 q hq⟩) (fun z hz => absurd hz List.not_mem_nil) (by decide) (by decide)) (fun hr_10 => ?_)
  refine lv_iload hx hb dX2_window_13 (lv_at hl 4 rfl) ?_
  refine lv_iload_n hx hb dX2_window_15 rfl (lv_at hl 3 rfl) ?_
  refine lv_sipush (v := nI 10000) hx hb dX2_window_16 (by decide +kernel) ?_
  refine nx_callv (vx_runS (As := [.int y, .int x, .int (nI 10000)]) (rest := []) ⟨hx, hb, hml, hown, hts⟩ (c_X2_requireRange l dD cI cR cS lo hfl y x (nI 10000)) (va_cwS 3 hts gX2_window_X2_requireRange rfl rfl rfl (by decide +kernel) ⟨Nat.le_of_ble_eq_true rfl, Nat.le_of_ble_eq_true rfl⟩) (ePreS hE va_S.rf trivial) rfl rfl hl.1 rfl (lv_room (Nat.le_of_ble_eq_true rfl)) dX2_window_19 ⟨Nat.le_of_ble_eq_true rfl, Nat.le_of_ble_eq_true rfl⟩) (fun E ce q9 H1 hX9 hz9 hk9 hc9 hv9 hf9 => vx_out (fun x hx => (hnt x hx).elim) hlocks hc9 hv9 hf9 (fun t9 ht9 _ => ⟨⟨hX9.1, fun h => hX9.2 (by obtain ⟨xn, hxn1, hxn2, rfl⟩ := rg_of (by decide) (by decide) hr_10; have h9 := h.2.2; rw [cl_nI (by omega)] at h9; exact h9)⟩, by rw [ht9]; exact hz9, fun q hq _ => by rw [ht9]; exact hk9 q hq⟩) (fun z hz => absurd hz List.not_mem_nil) (by decide) (by decide)) (fun hr_19 => ?_)
  refine vx_ret (W.widen (k := 4) (n := 24) (by decide) (by decide) ?_)
  obtain ⟨fn, hfn1, hfn2, rfl⟩ := rg_of (by decide) (by decide) (hr_2.1)
  obtain ⟨en, hen1, hen2, rfl⟩ := rg_of (by decide) (by decide) (hr_2.2)
  obtain ⟨xn, hxn1, hxn2, rfl⟩ := rg_of (by decide) (by decide) (hr_10)
  obtain ⟨yn, hyn1, hyn2, rfl⟩ := rg_of (by omega) (by decide) (hr_19)
  refine lv_iconst (v := nI 0) hx hb dX2_window_22 (by decide +kernel) ?_
  refine lv_istore (lv' := [(5, .int (nI 0)), (0, .ref x0), (1, .int (nI fn)), (2, .int (nI en)), (3, .int (nI xn)), (4, .int (nI yn))]) hx hb dX2_window_23 hl (by decide) rfl (fun ls hl => ?_)
  refine lv_aload_n hx hb dX2_window_25 rfl (lv_at hl 1 rfl) ?_
  refine va_get (D := dD) (ci := 2) (v := .ref (b 2)) (C := RX2) (T := TX2) (N := 9) hx hb hts hinX2 hown hK hP 0 rfl rfl 4 (by decide) (hts (.fieldLink RX2 19 "FeatureStore" "latest" "[LFeatureStore$Row;") (by decide +kernel)) (fun _ h9 => h9) rfl dX2_window_26 ?_
  refine lv_iload_n hx hb dX2_window_29 rfl (lv_at hl 2 rfl) ?_
  refine lv_iload_n hx hb dX2_window_30 rfl (lv_at hl 3 rfl) ?_
  refine vp_callSi (va_Run.run (va_runS (As := [.int (nI fn), .int (nI en)]) (rest := [.ref (b 2)]) ⟨hx, hb, hml, hown, hts⟩ (c_X2_placeOf l dD cI cR cS lo fn en) (va_cwS 2 hts gX2_window_X2_placeOf rfl rfl rfl (by decide +kernel) ⟨Nat.le_of_ble_eq_true rfl, Nat.le_of_ble_eq_true rfl⟩) (ePreS hE va_S.rf trivial) rfl rfl hl.1 rfl (lv_room (Nat.le_of_ble_eq_true rfl)) dX2_window_31 ⟨Nat.le_of_ble_eq_true rfl, Nat.le_of_ble_eq_true rfl⟩)) (fun r_31 hr_31 => ?_)
  subst hr_31
  refine nq_aald (q0 := 3) (t0 := 1) (fun j => rfN ra (hd j)) hx hb hK hP rfl rfl (by omega) (by decide) dX2_window_34 ?_
  refine nq_astore (lv' := [(6, va_rf (rfN ra (hd (10 * fn + en)))), (5, .int (nI 0)), (0, .ref x0), (1, .int (nI fn)), (2, .int (nI en)), (3, .int (nI xn)), (4, .int (nI yn))]) hx hb dX2_window_35 hl (by decide) rfl (fun ls hl => ?_)
  have hlp : ∀ (li : List Nat) (o sm : Nat), seg ol o li → (∀ y ∈ li, y < s_n σ ∧ s_pr σ y = (10 * fn + en)) → sm + c_sum σ xn yn li = q_sum σ (10 * fn + en) xn yn (s_n σ) → ∀ (ls : Array Slot), lv_has ls 7 [(0, .ref x0), (1, .int (nI fn)), (2, .int (nI en)), (3, .int (nI xn)), (4, .int (nI yn)), (5, .int (nI sm)), (6, va_rf (rfN ra o))] → W p l e_ (headSpec wsX2_window ({ frames := 8, cells := 4, slots := 24, locals := 125 })).room s m (([.ref x0, .int (nI fn), .int (nI en), .int (nI xn), .int (nI yn)] : List Value).toArray) below meth c s.heap [] 4 24 (MQ below (vp_Si (fun r => (okP (nI fn) (nI en) ∧ rg (nI xn) 0 10000 ∧ rg (nI yn) (cl (nI xn)) 10000) ∧ r = nI (q_sum σ (plN (nI fn) (nI en)) (cl (nI xn)) (cl (nI yn)) (s_n σ)))) (([.ref x0, .int (nI fn), .int (nI en), .int (nI xn), .int (nI yn)] : List Value).toArray) s 4 24 (fun _ => False)) (F0 m 37 ls []) := by
    intro li
    induction li with
    | nil =>
      intro o sm hs_ hm_ hf_ ls hl
      have ho_ : o = 0 := hs_
      subst ho_
      have hl : lv_has ls 7 [(0, .ref x0), (1, .int (nI fn)), (2, .int (nI en)), (3, .int (nI xn)), (4, .int (nI yn)), (5, .int (nI sm)), (6, .null)] := hl
      refine lv_aloadN hx hb dX2_window_37 (lv_at hl 6 rfl) ?_
      refine lv_ifnullN (tgt := 81) hx hb dX2_window_39 (by decide) ?_
      refine lv_iload hx hb dX2_window_81 (lv_at hl 5 rfl) ?_
      exact W.iret (v := nI sm) hx hb hr (fun u9 hu9 hW => ⟨nI sm, rfl, ⟨⟨hr_2, hr_10, by rw [cl_nI (n := xn) (by omega)]; exact hr_19⟩, by rw [plN, cl_nI (by omega), cl_nI (by omega), cl_nI (by omega), cl_nI (by omega), ← hf_]; rfl⟩, hu9⟩) (fun q h => absurd h List.not_mem_nil) dX2_window_83
    | cons x li ih =>
      intro o sm hs_ hm_ hf_ ls hl
      have ho_ : o = x + 1 := hs_.1
      subst ho_
      obtain ⟨hz_x, hz_q⟩ := hm_ x List.mem_cons_self
      obtain ⟨hz_1, hz_2, hz_3, hz_4⟩ := i_row x hz_x
      have hR := xRow hP hz_x
      have hl : lv_has ls 7 [(0, .ref x0), (1, .int (nI fn)), (2, .int (nI en)), (3, .int (nI xn)), (4, .int (nI yn)), (5, .int (nI sm)), (6, .ref (ra x))] := hl
      refine lv_aload hx hb dX2_window_37 (lv_at hl 6 rfl) ?_
      refine lv_ifnull hx hb dX2_window_39 ?_
      refine lv_aload hx hb dX2_window_42 (lv_at hl 6 rfl) ?_
      refine va_get (D := dD) (ci := 0) (v := .int (nI (s_ev σ x))) (C := RX0) (T := TX0) (N := 7) hx hb hts hinX0 hown hK hR 0 rfl rfl 3 (by decide) (hts (.fieldLink RX2 76 "FeatureStore$Row" "event" "I") (by decide +kernel)) (fun _ h9 => h9) rfl dX2_window_44 ?_
      refine lv_iload_n hx hb dX2_window_47 rfl (lv_at hl 3 rfl) ?_
      refine nv_lt (tgt := 71) hx hb dX2_window_48 (by decide) (by omega) (by omega) (fun c_48 => ?_) (fun c_48 => ?_)
      · refine lv_aload hx hb dX2_window_71 (lv_at hl 6 rfl) ?_
        refine va_get (D := dD) (ci := 0) (v := va_rf (rfN ra (ol x))) (C := RX0) (T := TX0) (N := 7) hx hb hts hinX0 hown hK hR 0 rfl rfl 6 (by decide) (hts (.fieldLink RX2 87 "FeatureStore$Row" "older" "LFeatureStore$Row;") (by decide +kernel)) (fun _ h9 => h9) rfl dX2_window_73 ?_
        refine nq_astore (lv' := [(6, va_rf (rfN ra (ol x))), (0, .ref x0), (1, .int (nI fn)), (2, .int (nI en)), (3, .int (nI xn)), (4, .int (nI yn)), (5, .int (nI sm))]) hx hb dX2_window_76 hl (by decide) rfl (fun ls hl => ?_)
        refine lv_goto (tgt := 37) hx hb dX2_window_78 (by decide) ?_
        exact ih (ol x) (sm) hs_.2 (fun y hy => hm_ y (List.mem_cons_of_mem _ hy)) (by rw [← hf_]; simp only [c_sum]; rw [if_neg (by omega)]; omega) ls (lv_sub hl [1, 2, 3, 4, 5, 6, 0] rfl)
      · refine lv_aload hx hb dX2_window_51 (lv_at hl 6 rfl) ?_
        refine va_get (D := dD) (ci := 0) (v := .int (nI (s_ev σ x))) (C := RX0) (T := TX0) (N := 7) hx hb hts hinX0 hown hK hR 0 rfl rfl 3 (by decide) (hts (.fieldLink RX2 76 "FeatureStore$Row" "event" "I") (by decide +kernel)) (fun _ h9 => h9) rfl dX2_window_53 ?_
        refine lv_iload hx hb dX2_window_56 (lv_at hl 4 rfl) ?_
        refine nv_gt (tgt := 71) hx hb dX2_window_58 (by decide) (by omega) (by omega) (fun c_58 => ?_) (fun c_58 => ?_)
        · refine lv_aload hx hb dX2_window_71 (lv_at hl 6 rfl) ?_
          refine va_get (D := dD) (ci := 0) (v := va_rf (rfN ra (ol x))) (C := RX0) (T := TX0) (N := 7) hx hb hts hinX0 hown hK hR 0 rfl rfl 6 (by decide) (hts (.fieldLink RX2 87 "FeatureStore$Row" "older" "LFeatureStore$Row;") (by decide +kernel)) (fun _ h9 => h9) rfl dX2_window_73 ?_
          refine nq_astore (lv' := [(6, va_rf (rfN ra (ol x))), (0, .ref x0), (1, .int (nI fn)), (2, .int (nI en)), (3, .int (nI xn)), (4, .int (nI yn)), (5, .int (nI sm))]) hx hb dX2_window_76 hl (by decide) rfl (fun ls hl => ?_)
          refine lv_goto (tgt := 37) hx hb dX2_window_78 (by decide) ?_
          exact ih (ol x) (sm) hs_.2 (fun y hy => hm_ y (List.mem_cons_of_mem _ hy)) (by rw [← hf_]; simp only [c_sum]; rw [if_neg (by omega)]; omega) ls (lv_sub hl [1, 2, 3, 4, 5, 6, 0] rfl)
        · refine lv_iload hx hb dX2_window_61 (lv_at hl 5 rfl) ?_
          refine lv_aload hx hb dX2_window_63 (lv_at hl 6 rfl) ?_
          refine va_get (D := dD) (ci := 0) (v := .int (nI (s_vl σ x))) (C := RX0) (T := TX0) (N := 7) hx hb hts hinX0 hown hK hR 0 rfl rfl 5 (by decide) (hts (.fieldLink RX2 70 "FeatureStore$Row" "value" "I") (by decide +kernel)) (fun _ h9 => h9) rfl dX2_window_65 ?_
          refine nv_iadd hx hb dX2_window_68 ?_
          refine lv_istore (lv' := [(5, .int (nI (sm + (s_vl σ x)))), (0, .ref x0), (1, .int (nI fn)), (2, .int (nI en)), (3, .int (nI xn)), (4, .int (nI yn)), (6, .ref (ra x))]) hx hb dX2_window_69 hl (by decide) rfl (fun ls hl => ?_)
          refine lv_aload hx hb dX2_window_71 (lv_at hl 6 rfl) ?_
          refine va_get (D := dD) (ci := 0) (v := va_rf (rfN ra (ol x))) (C := RX0) (T := TX0) (N := 7) hx hb hts hinX0 hown hK hR 0 rfl rfl 6 (by decide) (hts (.fieldLink RX2 87 "FeatureStore$Row" "older" "LFeatureStore$Row;") (by decide +kernel)) (fun _ h9 => h9) rfl dX2_window_73 ?_
          refine nq_astore (lv' := [(6, va_rf (rfN ra (ol x))), (5, .int (nI (sm + (s_vl σ x)))), (0, .ref x0), (1, .int (nI fn)), (2, .int (nI en)), (3, .int (nI xn)), (4, .int (nI yn))]) hx hb dX2_window_76 hl (by decide) rfl (fun ls hl => ?_)
          refine lv_goto (tgt := 37) hx hb dX2_window_78 (by decide) ?_
          exact ih (ol x) (sm + (s_vl σ x)) hs_.2 (fun y hy => hm_ y (List.mem_cons_of_mem _ hy)) (by rw [← hf_]; simp only [c_sum]; rw [if_pos (by omega)]; omega) ls (lv_sub hl [2, 3, 4, 5, 6, 1, 0] rfl)
  exact hlp (chn σ (10 * fn + en) (s_n σ)) (hd (10 * fn + en)) 0 (hX (10 * fn + en) (by omega)) (fun y hy => mem_chn.mp hy) (by rw [Nat.zero_add]; exact c_sum_sum _ _ _ _) ls (lv_sub hl [2, 3, 4, 5, 6, 1, 0] rfl)

set_option maxHeartbeats 4000000 in
set_option maxRecDepth 100000 in
theorem c_X2_greatestTile (l : Launch) (dD : va_G) (cI cR cS : ClassId) (lo : Nat) (hfl : l.stackTraces = false) (x0 : Nat) (b ra sb hd ol : Nat → Nat) (σ : St) (hI : sI σ) (hX : xI σ hd ol) (f e x : Int32) : vx_Met l yX2_greatestTile wsX2_greatestTile ({ frames := 8, cells := 3, slots := 18, locals := 125 }) (ePc dD cI cR cS lo [.ref x0, .int f, .int e, .int x] (fun H => va_P dD vwCl (xW cI cR cS x0 b ra sb hd ol σ) H)) (vp_Si (fun r => (okP f e ∧ rg x 1 10000) ∧ r = nI (q_gt σ (plN f e) (cl x) (s_n σ)))) (eX (fun E => E = nIAE ∧ ¬ (okP f e ∧ rg x 1 10000))) 3 18 (fun _ => False) := by
  refine vx_ofW (cc := cX2_greatestTile) (maxL := 9) (ret := (some .int)) (by decide) rfl ?_
  intro p e_ s m args below meth c s₁ B hml hnt hv
  obtain ⟨rfl, hE, hP⟩ := hv
  have hx := B.exec
  have hb := B.bytes
  have hr := B.returns
  have hts := atoms_spec (ws := wsX2_greatestTile) B.pre
  have hown : s.vm.findClass RX2 = some m.cls := findClass_of_methodNamed B.named
  have hlocks := B.notSynchronized
  have hK := hE.1.1
  have hinX0 : ∀ w ∈ u_ws RX0 TX0 7, w ∈ wsX2_greatestTile := by decide +kernel
  have hinX2 : ∀ w ∈ u_ws RX2 TX2 9, w ∈ wsX2_greatestTile := by decide +kernel
  obtain ⟨i_now, i_n, i_tk, i_k, i_lt, i_row, i_cp, i_srv⟩ := id hI
  have hl := lv_entry ([.ref x0, .int f, .int e, .int x]) (n := 9) (Nat.le_of_ble_eq_true rfl)
  rw [lg_entry_eq]
  generalize (lg_sl ([.ref x0, .int f, .int e, .int x]) ++ List.replicate (9 - (lg_sl ([.ref x0, .int f, .int e, .int x])).length) Slot.unset).toArray = ls at hl ⊢
  have hl : lv_has ls 9 [(0, .ref x0), (1, .int f), (2, .int e), (3, .int x)] := hl
  refine lv_iload_n hx hb dX2_greatestTile_0 rfl (lv_at hl 1 rfl) ?_
  refine lv_iload_n hx hb dX2_greatestTile_1 rfl (lv_at hl 2 rfl) ?_
  refine nx_callv (vx_runS (As := [.int f, .int e]) (rest := []) ⟨hx, hb, hml, hown, hts⟩ (c_X2_requirePair l dD cI cR cS lo hfl f e) (va_cwS 2 hts gX2_greatestTile_X2_requirePair rfl rfl rfl (by decide +kernel) ⟨Nat.le_of_ble_eq_true rfl, Nat.le_of_ble_eq_true rfl⟩) (ePreS hE va_S.rf trivial) rfl rfl hl.1 rfl (lv_room (Nat.le_of_ble_eq_true rfl)) dX2_greatestTile_2 ⟨Nat.le_of_ble_eq_true rfl, Nat.le_of_ble_eq_true rfl⟩) (fun E ce q9 H1 hX9 hz9 hk9 hc9 hv9 hf9 => vx_out (fun x hx => (hnt x hx).elim) hlocks hc9 hv9 hf9 (fun t9 ht9 _ => ⟨⟨hX9.1, fun h => hX9.2 (h.1)⟩, by rw [ht9]; exact hz9, fun q hq _ => by rw [ht9]; exact hk9 q hq⟩) (fun z hz => absurd hz List.not_mem_nil) (by decide) (by decide)) (fun hr_2 => ?_)
  refine lv_iload_n hx hb dX2_greatestTile_5 rfl (lv_at hl 3 rfl) ?_
  refine lv_iconst (v := nI 1) hx hb dX2_greatestTile_6 (by decide +kernel) ?_
  refine lv_sipush (v := nI 10000) hx hb dX2_greatestTile_7 (by decide +kernel) ?_
  refine nx_callv (vx_runS (As := [.int x, .int (nI 1), .int (nI 10000)]) (rest := []) ⟨hx, hb, hml, hown, hts⟩ (c_X2_requireRange l dD cI cR cS lo hfl x (nI 1) (nI 10000)) (va_cwS 3 hts gX2_greatestTile_X2_requireRange rfl rfl rfl (by decide +kernel) ⟨Nat.le_of_ble_eq_true rfl, Nat.le_of_ble_eq_true rfl⟩) (ePreS hE va_S.rf trivial) rfl rfl hl.1 rfl (lv_room (Nat.le_of_ble_eq_true rfl)) dX2_greatestTile_10 ⟨Nat.le_of_ble_eq_true rfl, Nat.le_of_ble_eq_true rfl⟩) (fun E ce q9 H1 hX9 hz9 hk9 hc9 hv9 hf9 => vx_out (fun x hx => (hnt x hx).elim) hlocks hc9 hv9 hf9 (fun t9 ht9 _ => ⟨⟨hX9.1, fun h => hX9.2 (h.2)⟩, by rw [ht9]; exact hz9, fun q hq _ => by rw [ht9]; exact hk9 q hq⟩) (fun z hz => absurd hz List.not_mem_nil) (by decide) (by decide)) (fun hr_10 => ?_)
  refine vx_ret (W.widen (k := 3) (n := 18) (by decide) (by decide) ?_)
  obtain ⟨fn, hfn1, hfn2, rfl⟩ := rg_of (by decide) (by decide) (hr_2.1)
  obtain ⟨en, hen1, hen2, rfl⟩ := rg_of (by decide) (by decide) (hr_2.2)
  obtain ⟨len, hlen1, hlen2, rfl⟩ := rg_of (by decide) (by decide) (hr_10)
  refine lv_iconst (v := nI 0) hx hb dX2_greatestTile_13 (by decide +kernel) ?_
  refine lv_istore (lv' := [(4, .int (nI 0)), (0, .ref x0), (1, .int (nI fn)), (2, .int (nI en)), (3, .int (nI len))]) hx hb dX2_greatestTile_14 hl (by decide) rfl (fun ls hl => ?_)
  refine lv_iconst (v := nI 0) hx hb dX2_greatestTile_16 (by decide +kernel) ?_
  refine lv_istore (lv' := [(5, .int (nI 0)), (4, .int (nI 0)), (0, .ref x0), (1, .int (nI fn)), (2, .int (nI en)), (3, .int (nI len))]) hx hb dX2_greatestTile_17 hl (by decide) rfl (fun ls hl => ?_)
  refine lv_iconst (v := (-1)) hx hb dX2_greatestTile_19 (by decide +kernel) ?_
  refine lv_istore (lv' := [(6, .int ((-1))), (5, .int (nI 0)), (4, .int (nI 0)), (0, .ref x0), (1, .int (nI fn)), (2, .int (nI en)), (3, .int (nI len))]) hx hb dX2_greatestTile_20 hl (by decide) rfl (fun ls hl => ?_)
  refine lv_aload_n hx hb dX2_greatestTile_22 rfl (lv_at hl 3 rfl) ?_
  refine va_get (D := dD) (ci := 2) (v := .ref (b 2)) (C := RX2) (T := TX2) (N := 9) hx hb hts hinX2 hown hK hP 0 rfl rfl 4 (by decide) (hts (.fieldLink RX2 19 "FeatureStore" "latest" "[LFeatureStore$Row;") (by decide +kernel)) (fun _ h9 => h9) rfl dX2_greatestTile_23 ?_
  refine lv_iload_n hx hb dX2_greatestTile_26 rfl (lv_at hl 4 rfl) ?_
  refine lv_iload_n hx hb dX2_greatestTile_27 rfl (lv_at hl 5 rfl) ?_
  refine vp_callSi (va_Run.run (va_runS (As := [.int (nI fn), .int (nI en)]) (rest := [.ref (b 2)]) ⟨hx, hb, hml, hown, hts⟩ (c_X2_placeOf l dD cI cR cS lo fn en) (va_cwS 2 hts gX2_greatestTile_X2_placeOf rfl rfl rfl (by decide +kernel) ⟨Nat.le_of_ble_eq_true rfl, Nat.le_of_ble_eq_true rfl⟩) (ePreS hE va_S.rf trivial) rfl rfl hl.1 rfl (lv_room (Nat.le_of_ble_eq_true rfl)) dX2_greatestTile_28 ⟨Nat.le_of_ble_eq_true rfl, Nat.le_of_ble_eq_true rfl⟩)) (fun r_28 hr_28 => ?_)
  subst hr_28
  refine nq_aald (q0 := 3) (t0 := 1) (fun j => rfN ra (hd j)) hx hb hK hP rfl rfl (by omega) (by decide) dX2_greatestTile_31 ?_
  refine nq_astore (lv' := [(7, va_rf (rfN ra (hd (10 * fn + en)))), (6, .int ((-1))), (5, .int (nI 0)), (4, .int (nI 0)), (0, .ref x0), (1, .int (nI fn)), (2, .int (nI en)), (3, .int (nI len))]) hx hb dX2_greatestTile_32 hl (by decide) rfl (fun ls hl => ?_)
  have hlp : ∀ (li : List Nat) (o g sm tl : Nat), seg ol o li → (∀ y ∈ li, y < s_n σ ∧ s_pr σ y = (10 * fn + en)) → sm + c_sum σ 0 10000 li ≤ 20000000 → g ≤ 20000000 → tl ≤ 10001 → c_gt σ len li g sm tl = q_gt σ (10 * fn + en) len (s_n σ) → ∀ (ls : Array Slot), lv_has ls 9 [(0, .ref x0), (1, .int (nI fn)), (2, .int (nI en)), (3, .int (nI len)), (4, .int (nI g)), (5, .int (nI sm)), (6, .int (eN tl)), (7, va_rf (rfN ra o))] → W p l e_ (headSpec wsX2_greatestTile ({ frames := 8, cells := 3, slots := 18, locals := 125 })).room s m (([.ref x0, .int (nI fn), .int (nI en), .int (nI len)] : List Value).toArray) below meth c s.heap [] 3 18 (MQ below (vp_Si (fun r => (okP (nI fn) (nI en) ∧ rg (nI len) 1 10000) ∧ r = nI (q_gt σ (plN (nI fn) (nI en)) (cl (nI len)) (s_n σ)))) (([.ref x0, .int (nI fn), .int (nI en), .int (nI len)] : List Value).toArray) s 3 18 (fun _ => False)) (F0 m 34 ls []) := by
    intro li
    induction li with
    | nil =>
      intro o g sm tl hs_ hm_ hb_ hg_ ht_ hf_ ls hl
      have ho_ : o = 0 := hs_
      subst ho_
      have hl : lv_has ls 9 [(0, .ref x0), (1, .int (nI fn)), (2, .int (nI en)), (3, .int (nI len)), (4, .int (nI g)), (5, .int (nI sm)), (6, .int (eN tl)), (7, .null)] := hl
      refine lv_aloadN hx hb dX2_greatestTile_34 (lv_at hl 7 rfl) ?_
      refine lv_ifnullN (tgt := 91) hx hb dX2_greatestTile_36 (by decide) ?_
      refine lv_iload hx hb dX2_greatestTile_91 (lv_at hl 4 rfl) ?_
      exact W.iret (v := nI g) hx hb hr (fun u9 hu9 hW => ⟨nI g, rfl, ⟨⟨hr_2, hr_10⟩, by rw [plN, cl_nI (by omega), cl_nI (by omega), cl_nI (by omega), ← hf_]; rfl⟩, hu9⟩) (fun q h => absurd h List.not_mem_nil) dX2_greatestTile_93
    | cons x li ih =>
      intro o g sm tl hs_ hm_ hb_ hg_ ht_ hf_ ls hl
      have ho_ : o = x + 1 := hs_.1
      subst ho_
      obtain ⟨hz_x, hz_q⟩ := hm_ x List.mem_cons_self
      obtain ⟨hz_1, hz_2, hz_3, hz_4⟩ := i_row x hz_x
      have hR := xRow hP hz_x
      have hz_d : s_ev σ x / len ≤ s_ev σ x := Nat.div_le_self _ _
      have hz_c : c_sum σ 0 10000 (x :: li) = s_vl σ x + c_sum σ 0 10000 li := by simp only [c_sum]; rw [if_pos (by omega)]
      have hl : lv_has ls 9 [(0, .ref x0), (1, .int (nI fn)), (2, .int (nI en)), (3, .int (nI len)), (4, .int (nI g)), (5, .int (nI sm)), (6, .int (eN tl)), (7, .ref (ra x))] := hl
      refine lv_aload hx hb dX2_greatestTile_34 (lv_at hl 7 rfl) ?_
      refine lv_ifnull hx hb dX2_greatestTile_36 ?_
      refine lv_aload hx hb dX2_greatestTile_39 (lv_at hl 7 rfl) ?_
      refine va_get (D := dD) (ci := 0) (v := .int (nI (s_ev σ x))) (C := RX0) (T := TX0) (N := 7) hx hb hts hinX0 hown hK hR 0 rfl rfl 3 (by decide) (hts (.fieldLink RX2 76 "FeatureStore$Row" "event" "I") (by decide +kernel)) (fun _ h9 => h9) rfl dX2_greatestTile_41 ?_
      refine lv_iload_n hx hb dX2_greatestTile_44 rfl (lv_at hl 3 rfl) ?_
      refine nv_idiv hx hb dX2_greatestTile_45 (by omega) (by omega) (by omega) ?_
      refine lv_istore (lv' := [(8, .int (nI ((s_ev σ x) / len))), (0, .ref x0), (1, .int (nI fn)), (2, .int (nI en)), (3, .int (nI len)), (4, .int (nI g)), (5, .int (nI sm)), (6, .int (eN tl)), (7, .ref (ra x))]) hx hb dX2_greatestTile_46 hl (by decide) rfl (fun ls hl => ?_)
      have hl : lv_has ls 9 [(8, .int (eN (s_ev σ x / len + 1))), (0, .ref x0), (1, .int (nI fn)), (2, .int (nI en)), (3, .int (nI len)), (4, .int (nI g)), (5, .int (nI sm)), (6, .int (eN tl)), (7, .ref (ra x))] := hl
      refine lv_iload hx hb dX2_greatestTile_48 (lv_at hl 0 rfl) ?_
      refine lv_iload hx hb dX2_greatestTile_50 (lv_at hl 7 rfl) ?_
      refine nv_eqN (tgt := 62) hx hb dX2_greatestTile_52 (by decide) (by omega) (by omega) (fun c_52 => ?_) (fun c_52 => ?_)
      · subst c_52
        refine lv_iload hx hb dX2_greatestTile_62 (lv_at hl 6 rfl) ?_
        refine lv_aload hx hb dX2_greatestTile_64 (lv_at hl 8 rfl) ?_
        refine va_get (D := dD) (ci := 0) (v := .int (nI (s_vl σ x))) (C := RX0) (T := TX0) (N := 7) hx hb hts hinX0 hown hK hR 0 rfl rfl 5 (by decide) (hts (.fieldLink RX2 70 "FeatureStore$Row" "value" "I") (by decide +kernel)) (fun _ h9 => h9) rfl dX2_greatestTile_66 ?_
        refine nv_iadd hx hb dX2_greatestTile_69 ?_
        refine lv_istore (lv' := [(5, .int (nI (sm + (s_vl σ x)))), (8, .int (eN (s_ev σ x / len + 1))), (0, .ref x0), (1, .int (nI fn)), (2, .int (nI en)), (3, .int (nI len)), (4, .int (nI g)), (6, .int (eN (s_ev σ x / len + 1))), (7, .ref (ra x))]) hx hb dX2_greatestTile_70 hl (by decide) rfl (fun ls hl => ?_)
        refine lv_iload hx hb dX2_greatestTile_72 (lv_at hl 6 rfl) ?_
        refine lv_iload hx hb dX2_greatestTile_74 (lv_at hl 0 rfl) ?_
        refine nv_max hx hb (hml.trans hl.1.symm) hown (hts (.methodLink RX2 91 Lib.Math.max.name) (by decide +kernel)) (hts (.static Lib.Math.max.name) (by decide +kernel)) (hts (.initialized "java/lang/Math") (by decide +kernel)) (hts (.code Lib.Math.max.name Lib.Math.max.code 2 (some .int)) (by decide +kernel)) (Nat.le_of_ble_eq_true rfl) (Nat.le_of_ble_eq_true rfl) (Nat.le_of_ble_eq_true rfl) (Nat.le_of_ble_eq_true rfl) (by omega) (by omega) dX2_greatestTile_76 ?_
        refine lv_istore (lv' := [(4, .int (nI (max g (sm + (s_vl σ x))))), (5, .int (nI (sm + (s_vl σ x)))), (8, .int (eN (s_ev σ x / len + 1))), (0, .ref x0), (1, .int (nI fn)), (2, .int (nI en)), (3, .int (nI len)), (6, .int (eN (s_ev σ x / len + 1))), (7, .ref (ra x))]) hx hb dX2_greatestTile_79 hl (by decide) rfl (fun ls hl => ?_)
        refine lv_aload hx hb dX2_greatestTile_81 (lv_at hl 8 rfl) ?_
        refine va_get (D := dD) (ci := 0) (v := va_rf (rfN ra (ol x))) (C := RX0) (T := TX0) (N := 7) hx hb hts hinX0 hown hK hR 0 rfl rfl 6 (by decide) (hts (.fieldLink RX2 87 "FeatureStore$Row" "older" "LFeatureStore$Row;") (by decide +kernel)) (fun _ h9 => h9) rfl dX2_greatestTile_83 ?_
        refine nq_astore (lv' := [(7, va_rf (rfN ra (ol x))), (4, .int (nI (max g (sm + (s_vl σ x))))), (5, .int (nI (sm + (s_vl σ x)))), (8, .int (eN (s_ev σ x / len + 1))), (0, .ref x0), (1, .int (nI fn)), (2, .int (nI en)), (3, .int (nI len)), (6, .int (eN (s_ev σ x / len + 1)))]) hx hb dX2_greatestTile_86 hl (by decide) rfl (fun ls hl => ?_)
        refine lv_goto (tgt := 34) hx hb dX2_greatestTile_88 (by decide) ?_
        exact ih (ol x) (max g (sm + (s_vl σ x))) (sm + (s_vl σ x)) (s_ev σ x / len + 1) hs_.2 (fun y hy => hm_ y (List.mem_cons_of_mem _ hy)) (by simp only [c_sum] at hb_; rw [if_pos (by omega)] at hb_; omega) (by simp only [c_sum] at hb_; rw [if_pos (by omega)] at hb_; omega) (by omega) (by rw [← hf_]; simp only [c_gt, c_s, if_true]) ls (lv_sub hl [4, 5, 6, 7, 1, 2, 8, 0] rfl)
      · refine lv_iload hx hb dX2_greatestTile_55 (lv_at hl 0 rfl) ?_
        refine lv_istore (lv' := [(6, .int (eN (s_ev σ x / len + 1))), (8, .int (eN (s_ev σ x / len + 1))), (0, .ref x0), (1, .int (nI fn)), (2, .int (nI en)), (3, .int (nI len)), (4, .int (nI g)), (5, .int (nI sm)), (7, .ref (ra x))]) hx hb dX2_greatestTile_57 hl (by decide) rfl (fun ls hl => ?_)
        refine lv_iconst (v := nI 0) hx hb dX2_greatestTile_59 (by decide +kernel) ?_
        refine lv_istore (lv' := [(5, .int (nI 0)), (6, .int (eN (s_ev σ x / len + 1))), (8, .int (eN (s_ev σ x / len + 1))), (0, .ref x0), (1, .int (nI fn)), (2, .int (nI en)), (3, .int (nI len)), (4, .int (nI g)), (7, .ref (ra x))]) hx hb dX2_greatestTile_60 hl (by decide) rfl (fun ls hl => ?_)
        refine lv_iload hx hb dX2_greatestTile_62 (lv_at hl 0 rfl) ?_
        refine lv_aload hx hb dX2_greatestTile_64 (lv_at hl 8 rfl) ?_
        refine va_get (D := dD) (ci := 0) (v := .int (nI (s_vl σ x))) (C := RX0) (T := TX0) (N := 7) hx hb hts hinX0 hown hK hR 0 rfl rfl 5 (by decide) (hts (.fieldLink RX2 70 "FeatureStore$Row" "value" "I") (by decide +kernel)) (fun _ h9 => h9) rfl dX2_greatestTile_66 ?_
        refine nv_iadd hx hb dX2_greatestTile_69 ?_
        refine lv_istore (lv' := [(5, .int (nI (0 + (s_vl σ x)))), (6, .int (eN (s_ev σ x / len + 1))), (8, .int (eN (s_ev σ x / len + 1))), (0, .ref x0), (1, .int (nI fn)), (2, .int (nI en)), (3, .int (nI len)), (4, .int (nI g)), (7, .ref (ra x))]) hx hb dX2_greatestTile_70 hl (by decide) rfl (fun ls hl => ?_)
        refine lv_iload hx hb dX2_greatestTile_72 (lv_at hl 7 rfl) ?_
        refine lv_iload hx hb dX2_greatestTile_74 (lv_at hl 0 rfl) ?_
        refine nv_max hx hb (hml.trans hl.1.symm) hown (hts (.methodLink RX2 91 Lib.Math.max.name) (by decide +kernel)) (hts (.static Lib.Math.max.name) (by decide +kernel)) (hts (.initialized "java/lang/Math") (by decide +kernel)) (hts (.code Lib.Math.max.name Lib.Math.max.code 2 (some .int)) (by decide +kernel)) (Nat.le_of_ble_eq_true rfl) (Nat.le_of_ble_eq_true rfl) (Nat.le_of_ble_eq_true rfl) (Nat.le_of_ble_eq_true rfl) (by omega) (by omega) dX2_greatestTile_76 ?_
        refine lv_istore (lv' := [(4, .int (nI (max g (0 + (s_vl σ x))))), (5, .int (nI (0 + (s_vl σ x)))), (6, .int (eN (s_ev σ x / len + 1))), (8, .int (eN (s_ev σ x / len + 1))), (0, .ref x0), (1, .int (nI fn)), (2, .int (nI en)), (3, .int (nI len)), (7, .ref (ra x))]) hx hb dX2_greatestTile_79 hl (by decide) rfl (fun ls hl => ?_)
        refine lv_aload hx hb dX2_greatestTile_81 (lv_at hl 8 rfl) ?_
        refine va_get (D := dD) (ci := 0) (v := va_rf (rfN ra (ol x))) (C := RX0) (T := TX0) (N := 7) hx hb hts hinX0 hown hK hR 0 rfl rfl 6 (by decide) (hts (.fieldLink RX2 87 "FeatureStore$Row" "older" "LFeatureStore$Row;") (by decide +kernel)) (fun _ h9 => h9) rfl dX2_greatestTile_83 ?_
        refine nq_astore (lv' := [(7, va_rf (rfN ra (ol x))), (4, .int (nI (max g (0 + (s_vl σ x))))), (5, .int (nI (0 + (s_vl σ x)))), (6, .int (eN (s_ev σ x / len + 1))), (8, .int (eN (s_ev σ x / len + 1))), (0, .ref x0), (1, .int (nI fn)), (2, .int (nI en)), (3, .int (nI len))]) hx hb dX2_greatestTile_86 hl (by decide) rfl (fun ls hl => ?_)
        refine lv_goto (tgt := 34) hx hb dX2_greatestTile_88 (by decide) ?_
        exact ih (ol x) (max g (0 + (s_vl σ x))) (0 + (s_vl σ x)) (s_ev σ x / len + 1) hs_.2 (fun y hy => hm_ y (List.mem_cons_of_mem _ hy)) (by simp only [c_sum] at hb_; rw [if_pos (by omega)] at hb_; omega) (by simp only [c_sum] at hb_; rw [if_pos (by omega)] at hb_; omega) (by omega) (by rw [← hf_]; simp only [c_gt, c_s]; rw [if_neg c_52]) ls (lv_sub hl [5, 6, 7, 8, 1, 2, 3, 0] rfl)
  exact hlp (chn σ (10 * fn + en) (s_n σ)) (hd (10 * fn + en)) 0 0 0 (hX (10 * fn + en) (by omega)) (fun y hy => mem_chn.mp hy) (by rw [Nat.zero_add]; exact c_sum_all hI _) (by omega) (by omega) (c_gt_gt _ _ (by omega)) ls (lv_sub hl [4, 5, 6, 7, 3, 2, 1, 0] rfl)

set_option maxHeartbeats 4000000 in
set_option maxRecDepth 100000 in
theorem c_X2_tiles (l : Launch) (dD : va_G) (cI cR cS : ClassId) (lo : Nat) (hfl : l.stackTraces = false) (x0 : Nat) (b ra sb hd ol : Nat → Nat) (σ : St) (hI : sI σ) (hX : xI σ hd ol) (f e x : Int32) : vx_Met l yX2_tiles wsX2_tiles ({ frames := 8, cells := 3, slots := 18, locals := 125 }) (ePc dD cI cR cS lo [.ref x0, .int f, .int e, .int x] (fun H => va_P dD vwCl (xW cI cR cS x0 b ra sb hd ol σ) H)) (vp_Si (fun r => (okP f e ∧ rg x 1 10000) ∧ r = nI (q_tl σ (plN f e) (cl x) (s_n σ)))) (eX (fun E => E = nIAE ∧ ¬ (okP f e ∧ rg x 1 10000))) 3 18 (fun _ => False) := by
  refine vx_ofW (cc := cX2_tiles) (maxL := 8) (ret := (some .int)) (by decide) rfl ?_
  intro p e_ s m args below meth c s₁ B hml hnt hv
  obtain ⟨rfl, hE, hP⟩ := hv
  have hx := B.exec
  have hb := B.bytes
  have hr := B.returns
  have hts := atoms_spec (ws := wsX2_tiles) B.pre
  have hown : s.vm.findClass RX2 = some m.cls := findClass_of_methodNamed B.named
  have hlocks := B.notSynchronized
  have hK := hE.1.1
  have hinX0 : ∀ w ∈ u_ws RX0 TX0 7, w ∈ wsX2_tiles := by decide +kernel
  have hinX2 : ∀ w ∈ u_ws RX2 TX2 9, w ∈ wsX2_tiles := by decide +kernel
  obtain ⟨i_now, i_n, i_tk, i_k, i_lt, i_row, i_cp, i_srv⟩ := id hI
  have hl := lv_entry ([.ref x0, .int f, .int e, .int x]) (n := 8) (Nat.le_of_ble_eq_true rfl)
  rw [lg_entry_eq]
  generalize (lg_sl ([.ref x0, .int f, .int e, .int x]) ++ List.replicate (8 - (lg_sl ([.ref x0, .int f, .int e, .int x])).length) Slot.unset).toArray = ls at hl ⊢
  have hl : lv_has ls 8 [(0, .ref x0), (1, .int f), (2, .int e), (3, .int x)] := hl
  refine lv_iload_n hx hb dX2_tiles_0 rfl (lv_at hl 1 rfl) ?_
  refine lv_iload_n hx hb dX2_tiles_1 rfl (lv_at hl 2 rfl) ?_
  refine nx_callv (vx_runS (As := [.int f, .int e]) (rest := []) ⟨hx, hb, hml, hown, hts⟩ (c_X2_requirePair l dD cI cR cS lo hfl f e) (va_cwS 2 hts gX2_tiles_X2_requirePair rfl rfl rfl (by decide +kernel) ⟨Nat.le_of_ble_eq_true rfl, Nat.le_of_ble_eq_true rfl⟩) (ePreS hE va_S.rf trivial) rfl rfl hl.1 rfl (lv_room (Nat.le_of_ble_eq_true rfl)) dX2_tiles_2 ⟨Nat.le_of_ble_eq_true rfl, Nat.le_of_ble_eq_true rfl⟩) (fun E ce q9 H1 hX9 hz9 hk9 hc9 hv9 hf9 => vx_out (fun x hx => (hnt x hx).elim) hlocks hc9 hv9 hf9 (fun t9 ht9 _ => ⟨⟨hX9.1, fun h => hX9.2 (h.1)⟩, by rw [ht9]; exact hz9, fun q hq _ => by rw [ht9]; exact hk9 q hq⟩) (fun z hz => absurd hz List.not_mem_nil) (by decide) (by decide)) (fun hr_2 => ?_)
  refine lv_iload_n hx hb dX2_tiles_5 rfl (lv_at hl 3 rfl) ?_
  refine lv_iconst (v := nI 1) hx hb dX2_tiles_6 (by decide +kernel) ?_
  refine lv_sipush (v := nI 10000) hx hb dX2_tiles_7 (by decide +kernel) ?_
  refine nx_callv (vx_runS (As := [.int x, .int (nI 1), .int (nI 10000)]) (rest := []) ⟨hx, hb, hml, hown, hts⟩ (c_X2_requireRange l dD cI cR cS lo hfl x (nI 1) (nI 10000)) (va_cwS 3 hts gX2_tiles_X2_requireRange rfl rfl rfl (by decide +kernel) ⟨Nat.le_of_ble_eq_true rfl, Nat.le_of_ble_eq_true rfl⟩) (ePreS hE va_S.rf trivial) rfl rfl hl.1 rfl (lv_room (Nat.le_of_ble_eq_true rfl)) dX2_tiles_10 ⟨Nat.le_of_ble_eq_true rfl, Nat.le_of_ble_eq_true rfl⟩) (fun E ce q9 H1 hX9 hz9 hk9 hc9 hv9 hf9 => vx_out (fun x hx => (hnt x hx).elim) hlocks hc9 hv9 hf9 (fun t9 ht9 _ => ⟨⟨hX9.1, fun h => hX9.2 (h.2)⟩, by rw [ht9]; exact hz9, fun q hq _ => by rw [ht9]; exact hk9 q hq⟩) (fun z hz => absurd hz List.not_mem_nil) (by decide) (by decide)) (fun hr_10 => ?_)
  refine vx_ret (W.widen (k := 3) (n := 18) (by decide) (by decide) ?_)
  obtain ⟨fn, hfn1, hfn2, rfl⟩ := rg_of (by decide) (by decide) (hr_2.1)
  obtain ⟨en, hen1, hen2, rfl⟩ := rg_of (by decide) (by decide) (hr_2.2)
  obtain ⟨len, hlen1, hlen2, rfl⟩ := rg_of (by decide) (by decide) (hr_10)
  refine lv_iconst (v := nI 0) hx hb dX2_tiles_13 (by decide +kernel) ?_
  refine lv_istore (lv' := [(4, .int (nI 0)), (0, .ref x0), (1, .int (nI fn)), (2, .int (nI en)), (3, .int (nI len))]) hx hb dX2_tiles_14 hl (by decide) rfl (fun ls hl => ?_)
  refine lv_iconst (v := (-1)) hx hb dX2_tiles_16 (by decide +kernel) ?_
  refine lv_istore (lv' := [(5, .int ((-1))), (4, .int (nI 0)), (0, .ref x0), (1, .int (nI fn)), (2, .int (nI en)), (3, .int (nI len))]) hx hb dX2_tiles_17 hl (by decide) rfl (fun ls hl => ?_)
  refine lv_aload_n hx hb dX2_tiles_19 rfl (lv_at hl 2 rfl) ?_
  refine va_get (D := dD) (ci := 2) (v := .ref (b 2)) (C := RX2) (T := TX2) (N := 9) hx hb hts hinX2 hown hK hP 0 rfl rfl 4 (by decide) (hts (.fieldLink RX2 19 "FeatureStore" "latest" "[LFeatureStore$Row;") (by decide +kernel)) (fun _ h9 => h9) rfl dX2_tiles_20 ?_
  refine lv_iload_n hx hb dX2_tiles_23 rfl (lv_at hl 3 rfl) ?_
  refine lv_iload_n hx hb dX2_tiles_24 rfl (lv_at hl 4 rfl) ?_
  refine vp_callSi (va_Run.run (va_runS (As := [.int (nI fn), .int (nI en)]) (rest := [.ref (b 2)]) ⟨hx, hb, hml, hown, hts⟩ (c_X2_placeOf l dD cI cR cS lo fn en) (va_cwS 2 hts gX2_tiles_X2_placeOf rfl rfl rfl (by decide +kernel) ⟨Nat.le_of_ble_eq_true rfl, Nat.le_of_ble_eq_true rfl⟩) (ePreS hE va_S.rf trivial) rfl rfl hl.1 rfl (lv_room (Nat.le_of_ble_eq_true rfl)) dX2_tiles_25 ⟨Nat.le_of_ble_eq_true rfl, Nat.le_of_ble_eq_true rfl⟩)) (fun r_25 hr_25 => ?_)
  subst hr_25
  refine nq_aald (q0 := 3) (t0 := 1) (fun j => rfN ra (hd j)) hx hb hK hP rfl rfl (by omega) (by decide) dX2_tiles_28 ?_
  refine nq_astore (lv' := [(6, va_rf (rfN ra (hd (10 * fn + en)))), (5, .int ((-1))), (4, .int (nI 0)), (0, .ref x0), (1, .int (nI fn)), (2, .int (nI en)), (3, .int (nI len))]) hx hb dX2_tiles_29 hl (by decide) rfl (fun ls hl => ?_)
  have hlp : ∀ (li : List Nat) (o cn tl : Nat), seg ol o li → (∀ y ∈ li, y < s_n σ ∧ s_pr σ y = (10 * fn + en)) → tl ≤ 10001 → cn + c_tl σ len li tl = q_tl σ (10 * fn + en) len (s_n σ) → ∀ (ls : Array Slot), lv_has ls 8 [(0, .ref x0), (1, .int (nI fn)), (2, .int (nI en)), (3, .int (nI len)), (4, .int (nI cn)), (5, .int (eN tl)), (6, va_rf (rfN ra o))] → W p l e_ (headSpec wsX2_tiles ({ frames := 8, cells := 3, slots := 18, locals := 125 })).room s m (([.ref x0, .int (nI fn), .int (nI en), .int (nI len)] : List Value).toArray) below meth c s.heap [] 3 18 (MQ below (vp_Si (fun r => (okP (nI fn) (nI en) ∧ rg (nI len) 1 10000) ∧ r = nI (q_tl σ (plN (nI fn) (nI en)) (cl (nI len)) (s_n σ)))) (([.ref x0, .int (nI fn), .int (nI en), .int (nI len)] : List Value).toArray) s 3 18 (fun _ => False)) (F0 m 31 ls []) := by
    intro li
    induction li with
    | nil =>
      intro o cn tl hs_ hm_ ht_ hf_ ls hl
      have ho_ : o = 0 := hs_
      subst ho_
      have hl : lv_has ls 8 [(0, .ref x0), (1, .int (nI fn)), (2, .int (nI en)), (3, .int (nI len)), (4, .int (nI cn)), (5, .int (eN tl)), (6, .null)] := hl
      refine lv_aloadN hx hb dX2_tiles_31 (lv_at hl 6 rfl) ?_
      refine lv_ifnullN (tgt := 69) hx hb dX2_tiles_33 (by decide) ?_
      refine lv_iload hx hb dX2_tiles_69 (lv_at hl 4 rfl) ?_
      exact W.iret (v := nI cn) hx hb hr (fun u9 hu9 hW => ⟨nI cn, rfl, ⟨⟨hr_2, hr_10⟩, by rw [plN, cl_nI (by omega), cl_nI (by omega), cl_nI (by omega), ← hf_]; rfl⟩, hu9⟩) (fun q h => absurd h List.not_mem_nil) dX2_tiles_71
    | cons x li ih =>
      intro o cn tl hs_ hm_ ht_ hf_ ls hl
      have ho_ : o = x + 1 := hs_.1
      subst ho_
      obtain ⟨hz_x, hz_q⟩ := hm_ x List.mem_cons_self
      obtain ⟨hz_1, hz_2, hz_3, hz_4⟩ := i_row x hz_x
      have hR := xRow hP hz_x
      have hz_d : s_ev σ x / len ≤ s_ev σ x := Nat.div_le_self _ _
      have hl : lv_has ls 8 [(0, .ref x0), (1, .int (nI fn)), (2, .int (nI en)), (3, .int (nI len)), (4, .int (nI cn)), (5, .int (eN tl)), (6, .ref (ra x))] := hl
      refine lv_aload hx hb dX2_tiles_31 (lv_at hl 6 rfl) ?_
      refine lv_ifnull hx hb dX2_tiles_33 ?_
      refine lv_aload hx hb dX2_tiles_36 (lv_at hl 6 rfl) ?_
      refine va_get (D := dD) (ci := 0) (v := .int (nI (s_ev σ x))) (C := RX0) (T := TX0) (N := 7) hx hb hts hinX0 hown hK hR 0 rfl rfl 3 (by decide) (hts (.fieldLink RX2 76 "FeatureStore$Row" "event" "I") (by decide +kernel)) (fun _ h9 => h9) rfl dX2_tiles_38 ?_
      refine lv_iload_n hx hb dX2_tiles_41 rfl (lv_at hl 3 rfl) ?_
      refine nv_idiv hx hb dX2_tiles_42 (by omega) (by omega) (by omega) ?_
      refine lv_istore (lv' := [(7, .int (nI ((s_ev σ x) / len))), (0, .ref x0), (1, .int (nI fn)), (2, .int (nI en)), (3, .int (nI len)), (4, .int (nI cn)), (5, .int (eN tl)), (6, .ref (ra x))]) hx hb dX2_tiles_43 hl (by decide) rfl (fun ls hl => ?_)
      have hl : lv_has ls 8 [(7, .int (eN (s_ev σ x / len + 1))), (0, .ref x0), (1, .int (nI fn)), (2, .int (nI en)), (3, .int (nI len)), (4, .int (nI cn)), (5, .int (eN tl)), (6, .ref (ra x))] := hl
      refine lv_iload hx hb dX2_tiles_45 (lv_at hl 0 rfl) ?_
      refine lv_iload hx hb dX2_tiles_47 (lv_at hl 6 rfl) ?_
      refine nv_eqN (tgt := 59) hx hb dX2_tiles_49 (by decide) (by omega) (by omega) (fun c_49 => ?_) (fun c_49 => ?_)
      · subst c_49
        refine lv_aload hx hb dX2_tiles_59 (lv_at hl 7 rfl) ?_
        refine va_get (D := dD) (ci := 0) (v := va_rf (rfN ra (ol x))) (C := RX0) (T := TX0) (N := 7) hx hb hts hinX0 hown hK hR 0 rfl rfl 6 (by decide) (hts (.fieldLink RX2 87 "FeatureStore$Row" "older" "LFeatureStore$Row;") (by decide +kernel)) (fun _ h9 => h9) rfl dX2_tiles_61 ?_
        refine nq_astore (lv' := [(6, va_rf (rfN ra (ol x))), (7, .int (eN (s_ev σ x / len + 1))), (0, .ref x0), (1, .int (nI fn)), (2, .int (nI en)), (3, .int (nI len)), (4, .int (nI cn)), (5, .int (eN (s_ev σ x / len + 1)))]) hx hb dX2_tiles_64 hl (by decide) rfl (fun ls hl => ?_)
        refine lv_goto (tgt := 31) hx hb dX2_tiles_66 (by decide) ?_
        exact ih (ol x) (cn) (s_ev σ x / len + 1) hs_.2 (fun y hy => hm_ y (List.mem_cons_of_mem _ hy)) (by omega) (by rw [← hf_]; simp only [c_tl, if_true]; omega) ls (lv_sub hl [2, 3, 4, 5, 6, 7, 0] rfl)
      · refine lv_iload hx hb dX2_tiles_52 (lv_at hl 0 rfl) ?_
        refine lv_istore (lv' := [(5, .int (eN (s_ev σ x / len + 1))), (7, .int (eN (s_ev σ x / len + 1))), (0, .ref x0), (1, .int (nI fn)), (2, .int (nI en)), (3, .int (nI len)), (4, .int (nI cn)), (6, .ref (ra x))]) hx hb dX2_tiles_54 hl (by decide) rfl (fun ls hl => ?_)
        refine lv_iinc (v := nI (cn + 1)) (lv' := [(4, .int (nI (cn + 1))), (5, .int (eN (s_ev σ x / len + 1))), (7, .int (eN (s_ev σ x / len + 1))), (0, .ref x0), (1, .int (nI fn)), (2, .int (nI en)), (3, .int (nI len)), (6, .ref (ra x))]) hx hb dX2_tiles_56 hl (k := 6) rfl (nv_inc _ 1) (by decide) rfl (fun ls hl => ?_)
        refine lv_aload hx hb dX2_tiles_59 (lv_at hl 7 rfl) ?_
        refine va_get (D := dD) (ci := 0) (v := va_rf (rfN ra (ol x))) (C := RX0) (T := TX0) (N := 7) hx hb hts hinX0 hown hK hR 0 rfl rfl 6 (by decide) (hts (.fieldLink RX2 87 "FeatureStore$Row" "older" "LFeatureStore$Row;") (by decide +kernel)) (fun _ h9 => h9) rfl dX2_tiles_61 ?_
        refine nq_astore (lv' := [(6, va_rf (rfN ra (ol x))), (4, .int (nI (cn + 1))), (5, .int (eN (s_ev σ x / len + 1))), (7, .int (eN (s_ev σ x / len + 1))), (0, .ref x0), (1, .int (nI fn)), (2, .int (nI en)), (3, .int (nI len))]) hx hb dX2_tiles_64 hl (by decide) rfl (fun ls hl => ?_)
        refine lv_goto (tgt := 31) hx hb dX2_tiles_66 (by decide) ?_
        exact ih (ol x) (cn + 1) (s_ev σ x / len + 1) hs_.2 (fun y hy => hm_ y (List.mem_cons_of_mem _ hy)) (by omega) (by rw [← hf_]; simp only [c_tl]; rw [if_neg c_49]; omega) ls (lv_sub hl [4, 5, 6, 7, 1, 2, 0] rfl)
  exact hlp (chn σ (10 * fn + en) (s_n σ)) (hd (10 * fn + en)) 0 0 (hX (10 * fn + en) (by omega)) (fun y hy => mem_chn.mp hy) (by omega) (by rw [Nat.zero_add]; exact c_tl_tl _ _ (by omega)) ls (lv_sub hl [3, 4, 5, 6, 2, 1, 0] rfl)

set_option maxHeartbeats 4000000 in
set_option maxRecDepth 100000 in
theorem c_X2_revised (l : Launch) (dD : va_G) (cI cR cS : ClassId) (lo : Nat) (hfl : l.stackTraces = false) (x0 : Nat) (b ra sb hd ol : Nat → Nat) (σ : St) (hI : sI σ) (hX : xI σ hd ol) (f e x : Int32) : vx_Met l yX2_revised wsX2_revised ({ frames := 8, cells := 3, slots := 18, locals := 125 }) (ePc dD cI cR cS lo [.ref x0, .int f, .int e, .int x] (fun H => va_P dD vwCl (xW cI cR cS x0 b ra sb hd ol σ) H)) (vp_Si (fun r => (okP f e ∧ rg x 1 10000) ∧ r = nI (q_rev σ (plN f e) (cl x) (s_now σ / cl x + 1)))) (eX (fun E => E = nIAE ∧ ¬ (okP f e ∧ rg x 1 10000))) 3 18 (fun _ => False) := by
  refine vx_ofW (cc := cX2_revised) (maxL := 9) (ret := (some .int)) (by decide) rfl ?_
  intro p e_ s m args below meth c s₁ B hml hnt hv
  obtain ⟨rfl, hE, hP⟩ := hv
  have hx := B.exec
  have hb := B.bytes
  have hr := B.returns
  have hts := atoms_spec (ws := wsX2_revised) B.pre
  have hown : s.vm.findClass RX2 = some m.cls := findClass_of_methodNamed B.named
  have hlocks := B.notSynchronized
  have hK := hE.1.1
  have hinX0 : ∀ w ∈ u_ws RX0 TX0 7, w ∈ wsX2_revised := by decide +kernel
  have hinX2 : ∀ w ∈ u_ws RX2 TX2 9, w ∈ wsX2_revised := by decide +kernel
  obtain ⟨i_now, i_n, i_tk, i_k, i_lt, i_row, i_cp, i_srv⟩ := id hI
  have hl := lv_entry ([.ref x0, .int f, .int e, .int x]) (n := 9) (Nat.le_of_ble_eq_true rfl)
  rw [lg_entry_eq]
  generalize (lg_sl ([.ref x0, .int f, .int e, .int x]) ++ List.replicate (9 - (lg_sl ([.ref x0, .int f, .int e, .int x])).length) Slot.unset).toArray = ls at hl ⊢
  have hl : lv_has ls 9 [(0, .ref x0), (1, .int f), (2, .int e), (3, .int x)] := hl
  refine lv_iload_n hx hb dX2_revised_0 rfl (lv_at hl 1 rfl) ?_
  refine lv_iload_n hx hb dX2_revised_1 rfl (lv_at hl 2 rfl) ?_
  refine nx_callv (vx_runS (As := [.int f, .int e]) (rest := []) ⟨hx, hb, hml, hown, hts⟩ (c_X2_requirePair l dD cI cR cS lo hfl f e) (va_cwS 2 hts gX2_revised_X2_requirePair rfl rfl rfl (by decide +kernel) ⟨Nat.le_of_ble_eq_true rfl, Nat.le_of_ble_eq_true rfl⟩) (ePreS hE va_S.rf trivial) rfl rfl hl.1 rfl (lv_room (Nat.le_of_ble_eq_true rfl)) dX2_revised_2 ⟨Nat.le_of_ble_eq_true rfl, Nat.le_of_ble_eq_true rfl⟩) (fun E ce q9 H1 hX9 hz9 hk9 hc9 hv9 hf9 => vx_out (fun x hx => (hnt x hx).elim) hlocks hc9 hv9 hf9 (fun t9 ht9 _ => ⟨⟨hX9.1, fun h => hX9.2 (h.1)⟩, by rw [ht9]; exact hz9, fun q hq _ => by rw [ht9]; exact hk9 q hq⟩) (fun z hz => absurd hz List.not_mem_nil) (by decide) (by decide)) (fun hr_2 => ?_)
  refine lv_iload_n hx hb dX2_revised_5 rfl (lv_at hl 3 rfl) ?_
  refine lv_iconst (v := nI 1) hx hb dX2_revised_6 (by decide +kernel) ?_
  refine lv_sipush (v := nI 10000) hx hb dX2_revised_7 (by decide +kernel) ?_
  refine nx_callv (vx_runS (As := [.int x, .int (nI 1), .int (nI 10000)]) (rest := []) ⟨hx, hb, hml, hown, hts⟩ (c_X2_requireRange l dD cI cR cS lo hfl x (nI 1) (nI 10000)) (va_cwS 3 hts gX2_revised_X2_requireRange rfl rfl rfl (by decide +kernel) ⟨Nat.le_of_ble_eq_true rfl, Nat.le_of_ble_eq_true rfl⟩) (ePreS hE va_S.rf trivial) rfl rfl hl.1 rfl (lv_room (Nat.le_of_ble_eq_true rfl)) dX2_revised_10 ⟨Nat.le_of_ble_eq_true rfl, Nat.le_of_ble_eq_true rfl⟩) (fun E ce q9 H1 hX9 hz9 hk9 hc9 hv9 hf9 => vx_out (fun x hx => (hnt x hx).elim) hlocks hc9 hv9 hf9 (fun t9 ht9 _ => ⟨⟨hX9.1, fun h => hX9.2 (h.2)⟩, by rw [ht9]; exact hz9, fun q hq _ => by rw [ht9]; exact hk9 q hq⟩) (fun z hz => absurd hz List.not_mem_nil) (by decide) (by decide)) (fun hr_10 => ?_)
  refine vx_ret (W.widen (k := 3) (n := 18) (by decide) (by decide) ?_)
  obtain ⟨fn, hfn1, hfn2, rfl⟩ := rg_of (by decide) (by decide) (hr_2.1)
  obtain ⟨en, hen1, hen2, rfl⟩ := rg_of (by decide) (by decide) (hr_2.2)
  obtain ⟨T, hT1, hT2, rfl⟩ := rg_of (by decide) (by decide) (hr_10)
  refine lv_iconst (v := nI 0) hx hb dX2_revised_13 (by decide +kernel) ?_
  refine lv_istore (lv' := [(4, .int (nI 0)), (0, .ref x0), (1, .int (nI fn)), (2, .int (nI en)), (3, .int (nI T))]) hx hb dX2_revised_14 hl (by decide) rfl (fun ls hl => ?_)
  refine lv_aload_n hx hb dX2_revised_16 rfl (lv_at hl 1 rfl) ?_
  refine va_get (D := dD) (ci := 2) (v := .int (nI (s_now σ))) (C := RX2) (T := TX2) (N := 9) hx hb hts hinX2 hown hK hP 0 rfl rfl 0 (by decide) (hts (.fieldLink RX2 35 "FeatureStore" "now" "I") (by decide +kernel)) (fun _ h9 => h9) rfl dX2_revised_17 ?_
  refine lv_iconst (v := nI 1) hx hb dX2_revised_20 (by decide +kernel) ?_
  refine nv_iadd hx hb dX2_revised_21 ?_
  refine lv_istore (lv' := [(5, .int (nI ((s_now σ) + 1))), (4, .int (nI 0)), (0, .ref x0), (1, .int (nI fn)), (2, .int (nI en)), (3, .int (nI T))]) hx hb dX2_revised_22 hl (by decide) rfl (fun ls hl => ?_)
  refine lv_aload_n hx hb dX2_revised_24 rfl (lv_at hl 2 rfl) ?_
  refine va_get (D := dD) (ci := 2) (v := .ref (b 2)) (C := RX2) (T := TX2) (N := 9) hx hb hts hinX2 hown hK hP 0 rfl rfl 4 (by decide) (hts (.fieldLink RX2 19 "FeatureStore" "latest" "[LFeatureStore$Row;") (by decide +kernel)) (fun _ h9 => h9) rfl dX2_revised_25 ?_
  refine lv_iload_n hx hb dX2_revised_28 rfl (lv_at hl 3 rfl) ?_
  refine lv_iload_n hx hb dX2_revised_29 rfl (lv_at hl 4 rfl) ?_
  refine vp_callSi (va_Run.run (va_runS (As := [.int (nI fn), .int (nI en)]) (rest := [.ref (b 2)]) ⟨hx, hb, hml, hown, hts⟩ (c_X2_placeOf l dD cI cR cS lo fn en) (va_cwS 2 hts gX2_revised_X2_placeOf rfl rfl rfl (by decide +kernel) ⟨Nat.le_of_ble_eq_true rfl, Nat.le_of_ble_eq_true rfl⟩) (ePreS hE va_S.rf trivial) rfl rfl hl.1 rfl (lv_room (Nat.le_of_ble_eq_true rfl)) dX2_revised_30 ⟨Nat.le_of_ble_eq_true rfl, Nat.le_of_ble_eq_true rfl⟩)) (fun r_30 hr_30 => ?_)
  subst hr_30
  refine nq_aald (q0 := 3) (t0 := 1) (fun j => rfN ra (hd j)) hx hb hK hP rfl rfl (by omega) (by decide) dX2_revised_33 ?_
  refine nq_astore (lv' := [(6, va_rf (rfN ra (hd (10 * fn + en)))), (5, .int (nI ((s_now σ) + 1))), (4, .int (nI 0)), (0, .ref x0), (1, .int (nI fn)), (2, .int (nI en)), (3, .int (nI T))]) hx hb dX2_revised_34 hl (by decide) rfl (fun ls hl => ?_)
  have hlp : ∀ (li : List Nat) (o cn lt_ : Nat), seg ol o li → (∀ y ∈ li, y < s_n σ ∧ s_pr σ y = (10 * fn + en)) → lt_ ≤ 10001 → cn + c_rev σ fn T li lt_ = q_rev σ (10 * fn + en) T (s_now σ / T + 1) → ∀ (ls : Array Slot), lv_has ls 9 [(0, .ref x0), (1, .int (nI fn)), (2, .int (nI en)), (3, .int (nI T)), (4, .int (nI cn)), (5, .int (nI lt_)), (6, va_rf (rfN ra o))] → W p l e_ (headSpec wsX2_revised ({ frames := 8, cells := 3, slots := 18, locals := 125 })).room s m (([.ref x0, .int (nI fn), .int (nI en), .int (nI T)] : List Value).toArray) below meth c s.heap [] 3 18 (MQ below (vp_Si (fun r => (okP (nI fn) (nI en) ∧ rg (nI T) 1 10000) ∧ r = nI (q_rev σ (plN (nI fn) (nI en)) (cl (nI T)) (s_now σ / cl (nI T) + 1)))) (([.ref x0, .int (nI fn), .int (nI en), .int (nI T)] : List Value).toArray) s 3 18 (fun _ => False)) (F0 m 36 ls []) := by
    intro li
    induction li with
    | nil =>
      intro o cn lt_ hs_ hm_ ht_ hf_ ls hl
      have ho_ : o = 0 := hs_
      subst ho_
      have hl : lv_has ls 9 [(0, .ref x0), (1, .int (nI fn)), (2, .int (nI en)), (3, .int (nI T)), (4, .int (nI cn)), (5, .int (nI lt_)), (6, .null)] := hl
      refine lv_aloadN hx hb dX2_revised_36 (lv_at hl 6 rfl) ?_
      refine lv_ifnullN (tgt := 122) hx hb dX2_revised_38 (by decide) ?_
      refine lv_iload hx hb dX2_revised_122 (lv_at hl 4 rfl) ?_
      exact W.iret (v := nI cn) hx hb hr (fun u9 hu9 hW => ⟨nI cn, rfl, ⟨⟨hr_2, hr_10⟩, by rw [plN, cl_nI (by omega), cl_nI (by omega), cl_nI (by omega), ← hf_]; rfl⟩, hu9⟩) (fun q h => absurd h List.not_mem_nil) dX2_revised_124
    | cons x li ih =>
      intro o cn lt_ hs_ hm_ ht_ hf_ ls hl
      have ho_ : o = x + 1 := hs_.1
      subst ho_
      obtain ⟨hz_x, hz_q⟩ := hm_ x List.mem_cons_self
      obtain ⟨hz_1, hz_2, hz_3, hz_4⟩ := i_row x hz_x
      have hR := xRow hP hz_x
      have hz_l := i_lt fn (by omega)
      have hl : lv_has ls 9 [(0, .ref x0), (1, .int (nI fn)), (2, .int (nI en)), (3, .int (nI T)), (4, .int (nI cn)), (5, .int (nI lt_)), (6, .ref (ra x))] := hl
      refine lv_aload hx hb dX2_revised_36 (lv_at hl 6 rfl) ?_
      refine lv_ifnull hx hb dX2_revised_38 ?_
      refine lv_iload hx hb dX2_revised_41 (lv_at hl 5 rfl) ?_
      refine lv_aload hx hb dX2_revised_43 (lv_at hl 6 rfl) ?_
      refine va_get (D := dD) (ci := 0) (v := .int (nI (s_ev σ x))) (C := RX0) (T := TX0) (N := 7) hx hb hts hinX0 hown hK hR 0 rfl rfl 3 (by decide) (hts (.fieldLink RX2 76 "FeatureStore$Row" "event" "I") (by decide +kernel)) (fun _ h9 => h9) rfl dX2_revised_45 ?_
      refine lv_aload_n hx hb dX2_revised_48 rfl (lv_at hl 0 rfl) ?_
      refine va_get (D := dD) (ci := 2) (v := .ref (b 0)) (C := RX2) (T := TX2) (N := 9) hx hb hts hinX2 hown hK hP 0 rfl rfl 1 (by decide) (hts (.fieldLink RX2 9 "FeatureStore" "lifetimes" "[I") (by decide +kernel)) (fun _ h9 => h9) rfl dX2_revised_49 ?_
      refine lv_iload_n hx hb dX2_revised_52 rfl (lv_at hl 1 rfl) ?_
      refine nv_iald (q0 := 1) (t0 := 0) (s_lt σ) hx hb hK hP rfl rfl (by omega) (by decide) dX2_revised_53 ?_
      refine nv_iadd hx hb dX2_revised_54 ?_
      refine lv_iconst (v := nI 1) hx hb dX2_revised_55 (by decide +kernel) ?_
      refine nv_iadd hx hb dX2_revised_56 ?_
      refine nv_min hx hb (hml.trans hl.1.symm) hown (hts (.methodLink RX2 96 Lib.Math.min.name) (by decide +kernel)) (hts (.static Lib.Math.min.name) (by decide +kernel)) (hts (.initialized "java/lang/Math") (by decide +kernel)) (hts (.code Lib.Math.min.name Lib.Math.min.code 2 (some .int)) (by decide +kernel)) (Nat.le_of_ble_eq_true rfl) (Nat.le_of_ble_eq_true rfl) (Nat.le_of_ble_eq_true rfl) (Nat.le_of_ble_eq_true rfl) (by omega) (by omega) dX2_revised_57 ?_
      refine lv_istore (lv' := [(7, .int (nI (min lt_ (((s_ev σ x) + (s_lt σ fn)) + 1)))), (0, .ref x0), (1, .int (nI fn)), (2, .int (nI en)), (3, .int (nI T)), (4, .int (nI cn)), (5, .int (nI lt_)), (6, .ref (ra x))]) hx hb dX2_revised_60 hl (by decide) rfl (fun ls hl => ?_)
      refine lv_iload hx hb dX2_revised_62 (lv_at hl 0 rfl) ?_
      refine lv_aload hx hb dX2_revised_64 (lv_at hl 7 rfl) ?_
      refine va_get (D := dD) (ci := 0) (v := .int (nI (s_ar σ x))) (C := RX0) (T := TX0) (N := 7) hx hb hts hinX0 hown hK hR 0 rfl rfl 4 (by decide) (hts (.fieldLink RX2 73 "FeatureStore$Row" "arrival" "I") (by decide +kernel)) (fun _ h9 => h9) rfl dX2_revised_66 ?_
      refine nv_min hx hb (hml.trans hl.1.symm) hown (hts (.methodLink RX2 96 Lib.Math.min.name) (by decide +kernel)) (hts (.static Lib.Math.min.name) (by decide +kernel)) (hts (.initialized "java/lang/Math") (by decide +kernel)) (hts (.code Lib.Math.min.name Lib.Math.min.code 2 (some .int)) (by decide +kernel)) (Nat.le_of_ble_eq_true rfl) (Nat.le_of_ble_eq_true rfl) (Nat.le_of_ble_eq_true rfl) (Nat.le_of_ble_eq_true rfl) (by omega) (by omega) dX2_revised_69 ?_
      refine lv_istore (lv' := [(8, .int (nI (min (min lt_ (((s_ev σ x) + (s_lt σ fn)) + 1)) (s_ar σ x)))), (7, .int (nI (min lt_ (((s_ev σ x) + (s_lt σ fn)) + 1)))), (0, .ref x0), (1, .int (nI fn)), (2, .int (nI en)), (3, .int (nI T)), (4, .int (nI cn)), (5, .int (nI lt_)), (6, .ref (ra x))]) hx hb dX2_revised_72 hl (by decide) rfl (fun ls hl => ?_)
      have hl : lv_has ls 9 [(8, .int (nI (c_ru σ fn x lt_))), (0, .ref x0), (1, .int (nI fn)), (2, .int (nI en)), (3, .int (nI T)), (4, .int (nI cn)), (5, .int (nI lt_)), (6, .ref (ra x))] := lv_sub hl [0, 2, 3, 4, 5, 6, 7, 8] rfl
      have hz_u : c_ru σ fn x lt_ ≤ 20002 := by unfold c_ru; omega
      refine lv_iload hx hb dX2_revised_74 (lv_at hl 0 rfl) ?_
      refine lv_aload hx hb dX2_revised_76 (lv_at hl 7 rfl) ?_
      refine va_get (D := dD) (ci := 0) (v := .int (nI (s_ev σ x))) (C := RX0) (T := TX0) (N := 7) hx hb hts hinX0 hown hK hR 0 rfl rfl 3 (by decide) (hts (.fieldLink RX2 76 "FeatureStore$Row" "event" "I") (by decide +kernel)) (fun _ h9 => h9) rfl dX2_revised_78 ?_
      refine nv_le (tgt := 105) hx hb dX2_revised_81 (by decide) (by omega) (by omega) (fun c_81 => ?_) (fun c_81 => ?_)
      · refine lv_aload hx hb dX2_revised_105 (lv_at hl 7 rfl) ?_
        refine va_get (D := dD) (ci := 0) (v := .int (nI (s_ev σ x))) (C := RX0) (T := TX0) (N := 7) hx hb hts hinX0 hown hK hR 0 rfl rfl 3 (by decide) (hts (.fieldLink RX2 76 "FeatureStore$Row" "event" "I") (by decide +kernel)) (fun _ h9 => h9) rfl dX2_revised_107 ?_
        refine lv_istore (lv' := [(5, .int (nI (s_ev σ x))), (8, .int (nI (c_ru σ fn x lt_))), (0, .ref x0), (1, .int (nI fn)), (2, .int (nI en)), (3, .int (nI T)), (4, .int (nI cn)), (6, .ref (ra x))]) hx hb dX2_revised_110 hl (by decide) rfl (fun ls hl => ?_)
        refine lv_aload hx hb dX2_revised_112 (lv_at hl 7 rfl) ?_
        refine va_get (D := dD) (ci := 0) (v := va_rf (rfN ra (ol x))) (C := RX0) (T := TX0) (N := 7) hx hb hts hinX0 hown hK hR 0 rfl rfl 6 (by decide) (hts (.fieldLink RX2 87 "FeatureStore$Row" "older" "LFeatureStore$Row;") (by decide +kernel)) (fun _ h9 => h9) rfl dX2_revised_114 ?_
        refine nq_astore (lv' := [(6, va_rf (rfN ra (ol x))), (5, .int (nI (s_ev σ x))), (8, .int (nI (c_ru σ fn x lt_))), (0, .ref x0), (1, .int (nI fn)), (2, .int (nI en)), (3, .int (nI T)), (4, .int (nI cn))]) hx hb dX2_revised_117 hl (by decide) rfl (fun ls hl => ?_)
        refine lv_goto (tgt := 36) hx hb dX2_revised_119 (by decide) ?_
        exact ih (ol x) (cn) (s_ev σ x) hs_.2 (fun y hy => hm_ y (List.mem_cons_of_mem _ hy)) (by omega) (by rw [← hf_]; simp only [c_rev]; rw [if_neg (by omega)]; omega) ls (lv_sub hl [3, 4, 5, 6, 7, 1, 0] rfl)
      · refine lv_iload hx hb dX2_revised_84 (lv_at hl 5 rfl) ?_
        refine lv_iload hx hb dX2_revised_86 (lv_at hl 0 rfl) ?_
        refine lv_iload_n hx hb dX2_revised_88 rfl (lv_at hl 4 rfl) ?_
        refine vp_callSi (va_Run.run (va_runS (As := [.int (nI (c_ru σ fn x lt_)), .int (nI T)]) (rest := [.int (nI cn)]) ⟨hx, hb, hml, hown, hts⟩ (c_X2_multiplesBelow l dD cI cR cS lo (c_ru σ fn x lt_) (T) (by omega) (by omega) (by omega)) (va_cwS 2 hts gX2_revised_X2_multiplesBelow rfl rfl rfl (by decide +kernel) ⟨Nat.le_of_ble_eq_true rfl, Nat.le_of_ble_eq_true rfl⟩) (ePreS hE va_S.rf trivial) rfl rfl hl.1 rfl (lv_room (Nat.le_of_ble_eq_true rfl)) dX2_revised_89 ⟨Nat.le_of_ble_eq_true rfl, Nat.le_of_ble_eq_true rfl⟩)) (fun r_89 hr_89 => ?_)
        subst hr_89
        refine lv_aload hx hb dX2_revised_92 (lv_at hl 7 rfl) ?_
        refine va_get (D := dD) (ci := 0) (v := .int (nI (s_ev σ x))) (C := RX0) (T := TX0) (N := 7) hx hb hts hinX0 hown hK hR 0 rfl rfl 3 (by decide) (hts (.fieldLink RX2 76 "FeatureStore$Row" "event" "I") (by decide +kernel)) (fun _ h9 => h9) rfl dX2_revised_94 ?_
        refine lv_iload_n hx hb dX2_revised_97 rfl (lv_at hl 4 rfl) ?_
        refine vp_callSi (va_Run.run (va_runS (As := [.int (nI (s_ev σ x)), .int (nI T)]) (rest := [.int (nI (c_mb (c_ru σ fn x lt_) (T))), .int (nI cn)]) ⟨hx, hb, hml, hown, hts⟩ (c_X2_multiplesBelow l dD cI cR cS lo (s_ev σ x) (T) (by omega) (by omega) (by omega)) (va_cwS 2 hts gX2_revised_X2_multiplesBelow rfl rfl rfl (by decide +kernel) ⟨Nat.le_of_ble_eq_true rfl, Nat.le_of_ble_eq_true rfl⟩) (ePreS hE va_S.rf trivial) rfl rfl hl.1 rfl (lv_room (Nat.le_of_ble_eq_true rfl)) dX2_revised_98 ⟨Nat.le_of_ble_eq_true rfl, Nat.le_of_ble_eq_true rfl⟩)) (fun r_98 hr_98 => ?_)
        subst hr_98
        refine nv_isub hx hb dX2_revised_101 (c_mb_mono (by omega)) ?_
        refine nv_iadd hx hb dX2_revised_102 ?_
        refine lv_istore (lv' := [(4, .int (nI (cn + ((c_mb (c_ru σ fn x lt_) (T)) - (c_mb (s_ev σ x) (T)))))), (8, .int (nI (c_ru σ fn x lt_))), (0, .ref x0), (1, .int (nI fn)), (2, .int (nI en)), (3, .int (nI T)), (5, .int (nI lt_)), (6, .ref (ra x))]) hx hb dX2_revised_103 hl (by decide) rfl (fun ls hl => ?_)
        refine lv_aload hx hb dX2_revised_105 (lv_at hl 7 rfl) ?_
        refine va_get (D := dD) (ci := 0) (v := .int (nI (s_ev σ x))) (C := RX0) (T := TX0) (N := 7) hx hb hts hinX0 hown hK hR 0 rfl rfl 3 (by decide) (hts (.fieldLink RX2 76 "FeatureStore$Row" "event" "I") (by decide +kernel)) (fun _ h9 => h9) rfl dX2_revised_107 ?_
        refine lv_istore (lv' := [(5, .int (nI (s_ev σ x))), (4, .int (nI (cn + ((c_mb (c_ru σ fn x lt_) (T)) - (c_mb (s_ev σ x) (T)))))), (8, .int (nI (c_ru σ fn x lt_))), (0, .ref x0), (1, .int (nI fn)), (2, .int (nI en)), (3, .int (nI T)), (6, .ref (ra x))]) hx hb dX2_revised_110 hl (by decide) rfl (fun ls hl => ?_)
        refine lv_aload hx hb dX2_revised_112 (lv_at hl 7 rfl) ?_
        refine va_get (D := dD) (ci := 0) (v := va_rf (rfN ra (ol x))) (C := RX0) (T := TX0) (N := 7) hx hb hts hinX0 hown hK hR 0 rfl rfl 6 (by decide) (hts (.fieldLink RX2 87 "FeatureStore$Row" "older" "LFeatureStore$Row;") (by decide +kernel)) (fun _ h9 => h9) rfl dX2_revised_114 ?_
        refine nq_astore (lv' := [(6, va_rf (rfN ra (ol x))), (5, .int (nI (s_ev σ x))), (4, .int (nI (cn + ((c_mb (c_ru σ fn x lt_) (T)) - (c_mb (s_ev σ x) (T)))))), (8, .int (nI (c_ru σ fn x lt_))), (0, .ref x0), (1, .int (nI fn)), (2, .int (nI en)), (3, .int (nI T))]) hx hb dX2_revised_117 hl (by decide) rfl (fun ls hl => ?_)
        refine lv_goto (tgt := 36) hx hb dX2_revised_119 (by decide) ?_
        exact ih (ol x) (cn + ((c_mb (c_ru σ fn x lt_) (T)) - (c_mb (s_ev σ x) (T)))) (s_ev σ x) hs_.2 (fun y hy => hm_ y (List.mem_cons_of_mem _ hy)) (by omega) (by rw [← hf_]; simp only [c_rev]; rw [if_pos (by omega)]; omega) ls (lv_sub hl [4, 5, 6, 7, 2, 1, 0] rfl)
  exact hlp (chn σ (10 * fn + en) (s_n σ)) (hd (10 * fn + en)) 0 (s_now σ + 1) (hX (10 * fn + en) (by omega)) (fun y hy => mem_chn.mp hy) (by omega) (by rw [Nat.zero_add]; have h9 := c_rev_rev hI (10 * fn + en) T (by omega); rw [show (10 * fn + en) / 10 = fn from by omega] at h9; exact h9) ls (lv_sub hl [3, 4, 5, 6, 2, 1, 0] rfl)

set_option maxHeartbeats 4000000 in
set_option maxRecDepth 100000 in
theorem c_X2_skew (l : Launch) (dD : va_G) (cI cR cS : ClassId) (lo : Nat) (x0 : Nat) (b ra sb hd ol : Nat → Nat) (σ : St) (hI : sI σ) (hX : xI σ hd ol) : Met l yX2_skew wsX2_skew ({ frames := 2, cells := 0, slots := 0, locals := 47 }) (ePc dD cI cR cS lo [.ref x0] (fun H => va_P dD vwCl (xW cI cR cS x0 b ra sb hd ol σ) H)) (vp_Si (fun r => r = nI (q_skew σ 60))) 0 0 (fun _ => False) := by
  refine Met.ofW (cc := cX2_skew) (maxL := 4) (ret := (some .int)) (by decide) rfl ?_
  intro p e_ s m args below meth c s₁ B hml hv
  obtain ⟨rfl, hE, hP⟩ := hv
  have hx := B.exec
  have hb := B.bytes
  have hr := B.returns
  have hts := atoms_spec (ws := wsX2_skew) B.pre
  have hown : s.vm.findClass RX2 = some m.cls := findClass_of_methodNamed B.named
  have hlocks := B.notSynchronized
  have hK := hE.1.1
  have hinX2 : ∀ w ∈ u_ws RX2 TX2 9, w ∈ wsX2_skew := by decide +kernel
  obtain ⟨i_now, i_n, i_tk, i_k, i_lt, i_row, i_cp, i_srv⟩ := id hI
  have hl := lv_entry ([.ref x0]) (n := 4) (Nat.le_of_ble_eq_true rfl)
  rw [lg_entry_eq]
  generalize (lg_sl ([.ref x0]) ++ List.replicate (4 - (lg_sl ([.ref x0])).length) Slot.unset).toArray = ls at hl ⊢
  have hl : lv_has ls 4 [(0, .ref x0)] := hl
  refine lv_iconst (v := nI 0) hx hb dX2_skew_0 (by decide +kernel) ?_
  refine lv_istore_n (lv' := [(1, .int (nI 0)), (0, .ref x0)]) hx hb dX2_skew_1 rfl hl (by decide) rfl (fun ls hl => ?_)
  refine lv_iconst (v := nI 0) hx hb dX2_skew_2 (by decide +kernel) ?_
  refine lv_istore_n (lv' := [(2, .int (nI 0)), (1, .int (nI 0)), (0, .ref x0)]) hx hb dX2_skew_3 rfl hl (by decide) rfl (fun ls hl => ?_)
  have hlp : ∀ (d : Nat) (f : Nat), f ≤ 6 → 6 < f + d → ∀ (ls : Array Slot), lv_has ls 4 [(0, .ref x0), (1, .int (nI (q_skew σ (10 * f)))), (2, .int (nI f))] → W p l e_ (headSpec wsX2_skew ({ frames := 2, cells := 0, slots := 0, locals := 47 })).room s m (([.ref x0] : List Value).toArray) below meth c s.heap [] 0 0 (MQ below (vp_Si (fun r => r = nI (q_skew σ 60))) ([.ref x0] : List Value).toArray s 0 0 (fun _ => False)) (F0 m 4 ls []) := by
    intro d
    induction d with
    | zero =>
      intro f hf1 hf2 ls hl
      exact absurd hf2 (by omega)
    | succ d ih =>
      intro f hf1 hf2 ls hl
      refine lv_iload_n hx hb dX2_skew_4 rfl (lv_at hl 2 rfl) ?_
      refine lv_bipush (v := nI 6) hx hb dX2_skew_5 (by decide +kernel) ?_
      refine nv_ge (tgt := 56) hx hb dX2_skew_7 (by decide) (by omega) (by omega) (fun c_7 => ?_) (fun c_7 => ?_)
      · have hre : f = 6 := by omega
        subst hre
        have hl : lv_has ls 4 [(1, .int (nI (q_skew σ 60)))] := lv_sub hl [1] rfl
        refine lv_iload_n hx hb dX2_skew_56 rfl (lv_at hl 0 rfl) ?_
        exact W.iret (v := nI (q_skew σ 60)) hx hb hr (fun u9 hu9 hW => ⟨nI (q_skew σ 60), rfl, rfl, hu9⟩) (fun q h => absurd h List.not_mem_nil) dX2_skew_57
      · refine lv_iconst (v := nI 0) hx hb dX2_skew_10 (by decide +kernel) ?_
        refine lv_istore_n (lv' := [(3, .int (nI 0)), (0, .ref x0), (1, .int (nI (q_skew σ (10 * f)))), (2, .int (nI f))]) hx hb dX2_skew_11 rfl hl (by decide) rfl (fun ls hl => ?_)
        have hlq : ∀ (d2 : Nat) (e : Nat), e ≤ 10 → 10 < e + d2 → ∀ (ls : Array Slot), lv_has ls 4 [(0, .ref x0), (1, .int (nI (q_skew σ (10 * f + e)))), (2, .int (nI f)), (3, .int (nI e))] → W p l e_ (headSpec wsX2_skew ({ frames := 2, cells := 0, slots := 0, locals := 47 })).room s m (([.ref x0] : List Value).toArray) below meth c s.heap [] 0 0 (MQ below (vp_Si (fun r => r = nI (q_skew σ 60))) ([.ref x0] : List Value).toArray s 0 0 (fun _ => False)) (F0 m 12 ls []) := by
          intro d2
          induction d2 with
          | zero =>
            intro e he1 he2 ls hl
            exact absurd he2 (by omega)
          | succ d2 ih2 =>
            intro e he1 he2 ls hl
            refine lv_iload_n hx hb dX2_skew_12 rfl (lv_at hl 3 rfl) ?_
            refine lv_bipush (v := nI 10) hx hb dX2_skew_13 (by decide +kernel) ?_
            refine nv_ge (tgt := 50) hx hb dX2_skew_15 (by decide) (by omega) (by omega) (fun c_15 => ?_) (fun c_15 => ?_)
            · have hre : e = 10 := by omega
              subst hre
              have hl : lv_has ls 4 [(0, .ref x0), (1, .int (nI (q_skew σ (10 * f + 10)))), (2, .int (nI f))] := lv_sub hl [0, 1, 2] rfl
              refine lv_iinc (v := nI (f + 1)) (lv' := [(2, .int (nI (f + 1))), (0, .ref x0), (1, .int (nI (q_skew σ (10 * f + 10))))]) hx hb dX2_skew_50 hl (k := 2) rfl (nv_inc _ 1) (by decide) rfl (fun ls hl => ?_)
              refine lv_goto (tgt := 4) hx hb dX2_skew_53 (by decide) ?_
              exact ih (f + 1) (by omega) (by omega) ls (by rw [show 10 * (f + 1) = 10 * f + 10 from by omega]; exact lv_sub hl [1, 2, 0] rfl)
            · have hz_j := q_join_le σ (10 * f + e) (s_now σ) (s_now σ)
              obtain ⟨hz_1, hz_2⟩ := i_cp (10 * f + e) (by omega)
              have hz_t : q_fr σ (s_cp σ (10 * f + e)) (s_now σ) ≤ s_n σ := q_fr_le (by omega)
              refine lv_aload_n hx hb dX2_skew_18 rfl (lv_at hl 0 rfl) ?_
              refine lv_iload_n hx hb dX2_skew_19 rfl (lv_at hl 2 rfl) ?_
              refine lv_iload_n hx hb dX2_skew_20 rfl (lv_at hl 3 rfl) ?_
              refine vp_callSi (va_Run.run (va_runV (As := [.int (nI f), .int (nI e)]) (rest := []) ⟨hx, hb, hml, hown, hts⟩ (c_X2_tell l dD cI cR cS lo x0 b ra sb hd ol σ hI (f) (e) (by omega) (by omega)) (cwV 2 hts gX2_skew_X2_tell rfl rfl rfl (by decide +kernel) ⟨Nat.le_of_ble_eq_true rfl, Nat.le_of_ble_eq_true rfl⟩) (ePreV hE va_S.rf hP (k := 0) rfl rfl hP) rfl rfl hl.1 rfl (lv_room (Nat.le_of_ble_eq_true rfl)) dX2_skew_21 ⟨Nat.le_of_ble_eq_true rfl, Nat.le_of_ble_eq_true rfl⟩)) (fun r_21 hr_21 => ?_)
              subst hr_21
              refine lv_aload_n hx hb dX2_skew_24 rfl (lv_at hl 0 rfl) ?_
              refine lv_iload_n hx hb dX2_skew_25 rfl (lv_at hl 2 rfl) ?_
              refine lv_iload_n hx hb dX2_skew_26 rfl (lv_at hl 3 rfl) ?_
              refine lv_aload_n hx hb dX2_skew_27 rfl (lv_at hl 0 rfl) ?_
              refine va_get (D := dD) (ci := 2) (v := .int (nI (s_now σ))) (C := RX2) (T := TX2) (N := 9) hx hb hts hinX2 hown hK hP 0 rfl rfl 0 (by decide) (hts (.fieldLink RX2 35 "FeatureStore" "now" "I") (by decide +kernel)) (fun _ h9 => h9) rfl dX2_skew_28 ?_
              refine lv_aload_n hx hb dX2_skew_31 rfl (lv_at hl 0 rfl) ?_
              refine va_get (D := dD) (ci := 2) (v := .int (nI (s_now σ))) (C := RX2) (T := TX2) (N := 9) hx hb hts hinX2 hown hK hP 0 rfl rfl 0 (by decide) (hts (.fieldLink RX2 35 "FeatureStore" "now" "I") (by decide +kernel)) (fun _ h9 => h9) rfl dX2_skew_32 ?_
              refine vp_callSi (va_Run.run (va_runV (As := [.int (nI f), .int (nI e), .int (nI (s_now σ)), .int (nI (s_now σ))]) (rest := [.int (eN (q_fr σ (s_cp σ (10 * f + e)) (s_now σ)))]) ⟨hx, hb, hml, hown, hts⟩ (c_X2_find l dD cI cR cS lo x0 b ra sb hd ol σ hI hX (f) (e) (s_now σ) (s_now σ) (by omega) (by omega) (by omega) (by omega)) (cwV 4 hts gX2_skew_X2_find rfl rfl rfl (by decide +kernel) ⟨Nat.le_of_ble_eq_true rfl, Nat.le_of_ble_eq_true rfl⟩) (ePreV hE va_S.rf hP (k := 0) rfl rfl hP) rfl rfl hl.1 rfl (lv_room (Nat.le_of_ble_eq_true rfl)) dX2_skew_35 ⟨Nat.le_of_ble_eq_true rfl, Nat.le_of_ble_eq_true rfl⟩)) (fun r_35 hr_35 => ?_)
              subst hr_35
              refine nv_eqN (tgt := 44) hx hb dX2_skew_38 (by decide) (by omega) (by omega) (fun c_38 => ?_) (fun c_38 => ?_)
              · refine lv_iinc (v := nI (e + 1)) (lv' := [(3, .int (nI (e + 1))), (0, .ref x0), (1, .int (nI (q_skew σ (10 * f + e)))), (2, .int (nI f))]) hx hb dX2_skew_44 hl (k := 3) rfl (nv_inc _ 1) (by decide) rfl (fun ls hl => ?_)
                refine lv_goto (tgt := 12) hx hb dX2_skew_47 (by decide) ?_
                exact ih2 (e + 1) (by omega) (by omega) ls (by rw [show q_skew σ (10 * f + (e + 1)) = q_skew σ (10 * f + e) from by show q_skew σ (10 * f + e + 1) = _; simp only [q_skew]; rw [if_pos c_38, Nat.add_zero]]; exact lv_sub hl [1, 2, 3, 0] rfl)
              · refine lv_iinc (v := nI (q_skew σ (10 * f + e) + 1)) (lv' := [(1, .int (nI (q_skew σ (10 * f + e) + 1))), (0, .ref x0), (2, .int (nI f)), (3, .int (nI e))]) hx hb dX2_skew_41 hl (k := 1) rfl (nv_inc _ 1) (by decide) rfl (fun ls hl => ?_)
                refine lv_iinc (v := nI (e + 1)) (lv' := [(3, .int (nI (e + 1))), (1, .int (nI (q_skew σ (10 * f + e) + 1))), (0, .ref x0), (2, .int (nI f))]) hx hb dX2_skew_44 hl (k := 3) rfl (nv_inc _ 1) (by decide) rfl (fun ls hl => ?_)
                refine lv_goto (tgt := 12) hx hb dX2_skew_47 (by decide) ?_
                exact ih2 (e + 1) (by omega) (by omega) ls (by rw [show q_skew σ (10 * f + (e + 1)) = q_skew σ (10 * f + e) + 1 from by show q_skew σ (10 * f + e + 1) = _; simp only [q_skew]; rw [if_neg c_38]]; exact lv_sub hl [2, 1, 3, 0] rfl)
        exact hlq 11 0 (by omega) (by omega) ls (lv_sub hl [1, 2, 3, 0] rfl)
  exact hlp 7 0 (by omega) (by omega) ls (lv_sub hl [2, 1, 0] rfl)
end
section
/-! worlds cut and joined; the class's world as it is written -/
theorem vD_iff {A : Nat → Prop} {ws : va_W} : va_D A ws ↔ (ws.map Prod.fst).Nodup ∧ ∀ p ∈ ws, A p.1 := by
  constructor
  · rintro ⟨h1, h2⟩
    refine ⟨?_, fun p hp => ?_⟩
    · rw [List.nodup_iff_pairwise_ne, List.pairwise_iff_getElem]
      intro i j hi hj hij e
      rw [List.getElem_map, List.getElem_map] at e
      have hi' : i < ws.length := by simpa using hi
      have hj' : j < ws.length := by simpa using hj
      have := h1 i j _ _ (List.getElem?_eq_getElem hi') (List.getElem?_eq_getElem hj') e
      omega
    · obtain ⟨k, hk⟩ := List.getElem?_of_mem hp
      exact h2 k p hk
  · rintro ⟨h1, h2⟩
    refine ⟨fun i j p q hp hq e => ?_, fun k q hk => h2 q (List.mem_of_getElem? hk)⟩
    obtain ⟨hi, hp'⟩ := List.getElem?_eq_some_iff.mp hp
    obtain ⟨hj, hq'⟩ := List.getElem?_eq_some_iff.mp hq
    have key := (List.nodup_iff_pairwise_ne.mp h1)
    rw [List.pairwise_iff_getElem] at key
    rcases Nat.lt_trichotomy i j with h | h | h
    · exact absurd (by rw [List.getElem_map, List.getElem_map, hp', hq']; exact e) (key i j (by simpa using hi) (by simpa using hj) h)
    · exact h
    · exact absurd (by rw [List.getElem_map, List.getElem_map, hp', hq']; exact e.symm) (key j i (by simpa using hj) (by simpa using hi) h)
theorem vP_iff {D : va_G} {cl : List vw_C} {ws : va_W} {H : Heap} : va_P D cl ws H ↔ ∀ p ∈ ws, va_at D cl p H := by
  constructor
  · intro h p hp
    obtain ⟨k, hk⟩ := List.getElem?_of_mem hp
    exact h k p hk
  · intro h k q hk
    exact h q (List.mem_of_getElem? hk)
theorem vP_perm {D : va_G} {cl : List vw_C} {ws ws' : va_W} {H : Heap} (p : ws.Perm ws') (h : va_P D cl ws H) : va_P D cl ws' H := by
  rw [vP_iff] at h ⊢
  exact fun x hx => h x (p.mem_iff.mpr hx)
theorem vD_perm {A : Nat → Prop} {ws ws' : va_W} (p : ws.Perm ws') (h : va_D A ws) : va_D A ws' := by
  rw [vD_iff] at h ⊢
  exact ⟨((p.map Prod.fst).nodup_iff).mp h.1, fun x hx => h.2 x (p.mem_iff.mpr hx)⟩
theorem vA_iff {ws : va_W} {sz q : Nat} : va_A ws sz q ↔ q ∈ ws.map Prod.fst ∨ sz ≤ q := by
  unfold va_A
  constructor
  · rintro (⟨k, e, h⟩ | h)
    · exact Or.inl (List.mem_map.mpr ⟨(q, e), List.mem_of_getElem? h, rfl⟩)
    · exact Or.inr h
  · rintro (h | h)
    · obtain ⟨p, hp, rfl⟩ := List.mem_map.mp h
      obtain ⟨k, hk⟩ := List.getElem?_of_mem hp
      exact Or.inl ⟨k, p.2, hk⟩
    · exact Or.inr h
/-- what a call on the part w1 may touch is ours -/
theorem fr_free {A : Nat → Prop} {w1 w2 : va_W} {sz : Nat} (hD : va_D A (w1 ++ w2)) (hA : ∀ q, sz ≤ q → A q) : ∀ q, va_A w1 sz q → A q := by
  intro q h
  rw [vA_iff] at h
  rcases h with h | h
  · obtain ⟨p, hp, rfl⟩ := List.mem_map.mp h
    exact (vD_iff.mp hD).2 p (List.mem_append_left _ hp)
  · exact hA q h
/-- the frame rule: behind a call on the part w1 the rest is as it was -/
theorem fr_join {D : va_G} {cl : List vw_C} {A : Nat → Prop} {w1 w1' w2 : va_W} {H H1 : Heap} (hP : va_P D cl (w1 ++ w2) H) (hD : va_D A (w1 ++ w2)) (hA : ∀ q, H.size ≤ q → A q) (hk : ∀ q : Nat, q < H.size → ¬ va_A w1 H.size q → H1[q]? = H[q]?)
    (hP1 : va_P D cl w1' H1) (hD1 : va_D (va_A w1 H.size) w1') : va_P D cl (w1' ++ w2) H1 ∧ va_D A (w1' ++ w2) := by
  have hf := fr_free hD hA
  rw [vD_iff] at hD hD1
  rw [vP_iff] at hP hP1
  have hapart : ∀ p ∈ w2, p.1 < H.size ∧ ¬ va_A w1 H.size p.1 := by
    intro p hp
    have hlt := (hP p (List.mem_append_right _ hp)).lt
    refine ⟨hlt, fun h => ?_⟩
    rw [vA_iff] at h
    rcases h with h | h
    · have h2 := hD.1
      rw [List.map_append, List.nodup_append] at h2
      exact h2.2.2 _ h _ (List.mem_map.mpr ⟨p, hp, rfl⟩) rfl
    · omega
  refine ⟨vP_iff.mpr (fun p hp => ?_), vD_iff.mpr ⟨?_, fun p hp => ?_⟩⟩
  · rcases List.mem_append.mp hp with h | h
    · exact hP1 p h
    · obtain ⟨g1, g2⟩ := hapart p h
      exact (hP p (List.mem_append_right _ h)).kept (hk p.1 g1 g2)
  · have h2 := hD.1
    rw [List.map_append, List.nodup_append] at h2 ⊢
    refine ⟨hD1.1, h2.2.1, fun x hx y hy e => ?_⟩
    obtain ⟨px, hpx, rfl⟩ := List.mem_map.mp hx
    obtain ⟨py, hpy, rfl⟩ := List.mem_map.mp hy
    exact (hapart py hpy).2 (by rw [← e]; exact hD1.2 px hpx)
  · rcases List.mem_append.mp hp with h | h
    · exact hf _ (hD1.2 p h)
    · exact hD.2 p (List.mem_append_right _ h)
theorem fr_joinR {D : va_G} {cl : List vw_C} {A : Nat → Prop} {w1 w1' w2 : va_W} {H H1 : Heap} (hP : va_P D cl (w2 ++ w1) H) (hD : va_D A (w2 ++ w1)) (hA : ∀ q, H.size ≤ q → A q) (hk : ∀ q : Nat, q < H.size → ¬ va_A w1 H.size q → H1[q]? = H[q]?)
    (hP1 : va_P D cl w1' H1) (hD1 : va_D (va_A w1 H.size) w1') : va_P D cl (w2 ++ w1') H1 ∧ va_D A (w2 ++ w1') := by
  obtain ⟨h1, h2⟩ := fr_join (vP_perm List.perm_append_comm hP) (vD_perm List.perm_append_comm hD) hA hk hP1 hD1
  exact ⟨vP_perm List.perm_append_comm h1, vD_perm List.perm_append_comm h2⟩
theorem fr_freeR {A : Nat → Prop} {w1 w2 : va_W} {sz : Nat} (hD : va_D A (w2 ++ w1)) (hA : ∀ q, sz ≤ q → A q) : ∀ q, va_A w1 sz q → A q := fr_free (vD_perm List.perm_append_comm hD) hA
theorem vP_app1 {D : va_G} {cl : List vw_C} {w1 w2 : va_W} {H : Heap} (h : va_P D cl (w1 ++ w2) H) : va_P D cl w1 H := by
  rw [vP_iff] at h ⊢
  exact fun p hp => h p (List.mem_append_left _ hp)
theorem vP_app2 {D : va_G} {cl : List vw_C} {w1 w2 : va_W} {H : Heap} (h : va_P D cl (w1 ++ w2) H) : va_P D cl w2 H := by
  rw [vP_iff] at h ⊢
  exact fun p hp => h p (List.mem_append_right _ hp)
theorem vD_app1 {A : Nat → Prop} {w1 w2 : va_W} (h : va_D A (w1 ++ w2)) : va_D A w1 := by
  rw [vD_iff] at h ⊢
  rw [List.map_append, List.nodup_append] at h
  exact ⟨h.1.1, fun p hp => h.2 p (List.mem_append_left _ hp)⟩
theorem vD_app2 {A : Nat → Prop} {w1 w2 : va_W} (h : va_D A (w1 ++ w2)) : va_D A w2 := by
  rw [vD_iff] at h ⊢
  rw [List.map_append, List.nodup_append] at h
  exact ⟨h.1.2.1, fun p hp => h.2 p (List.mem_append_right _ hp)⟩
theorem vD_mono {A B : Nat → Prop} {ws : va_W} (h : va_D A ws) (hAB : ∀ q, A q → B q) : va_D B ws := ⟨h.1, fun k q hk => hAB _ (h.2 k q hk)⟩
-- the class's world
abbrev poolE (ra sb ol : Nat → Nat) (σ : St) (n k : Nat) : va_W := (List.range n).map (rowE ra ol σ) ++ (List.range k).map (srvE sb σ)
/-- what else the links keep to: rows that there are -/
def xJ (σ : St) (hd ol : Nat → Nat) : Prop := (∀ j, hd j ≤ s_n σ) ∧ (∀ i, ol i ≤ s_n σ) ∧ ∀ j, s_cp σ j ≤ s_n σ
theorem xW_fst {cI cR cS : ClassId} {x0 : Nat} {b ra sb hd ol : Nat → Nat} {σ : St} : (xW cI cR cS x0 b ra sb hd ol σ).map Prod.fst = x0 :: b 0 :: b 1 :: b 2 :: b 3 :: b 4 :: ((List.range (s_n σ)).map ra ++ (List.range (s_k σ)).map sb) := by
  simp [List.map_append, Function.comp_def]
theorem xD_to {A : Nat → Prop} {cI cR cS : ClassId} {x0 : Nat} {b ra sb hd ol hd' ol' : Nat → Nat} {σ σ' : St} (hD : va_D A (xW cI cR cS x0 b ra sb hd ol σ)) (hn : s_n σ' = s_n σ) (hk : s_k σ' = s_k σ) : va_D A (xW cI cR cS x0 b ra sb hd' ol' σ') :=
  va_D_fst hD (by rw [xW_fst, xW_fst, hn, hk])
theorem pool_row {ra sb ol : Nat → Nat} {σ : St} {n k i : Nat} (hi : i < n) : (poolE ra sb ol σ n k)[i]? = some (rowE ra ol σ i) := by
  rw [List.getElem?_append_left (by simpa using hi)]
  simp [hi]
/-- a row's link is written -/
theorem pool_set {ra sb ol : Nat → Nat} {σ : St} {n k r v : Nat} (hr : r < n) : (poolE ra sb ol σ n k).set r (ra r, .inr (0, [.int (nI r), .int (nI (s_pr σ r / 10)), .int (nI (s_pr σ r % 10)), .int (nI (s_ev σ r)), .int (nI (s_ar σ r)), .int (nI (s_vl σ r)), va_rf (rfN ra v)])) = poolE ra sb (uN ol r v) σ n k := by
  apply List.ext_getElem?
  intro i
  by_cases h : i = r
  · subst h
    rw [List.getElem?_set_self (by simp; omega), pool_row hr]
    show _ = some (ra i, _)
    rw [uN_s]
  · rw [List.getElem?_set_ne (fun e => h e.symm)]
    unfold poolE
    by_cases h2 : i < n
    · rw [List.getElem?_append_left (by simpa using h2), List.getElem?_append_left (by simpa using h2)]
      simp [h2, uN_n h]
    · rw [List.getElem?_append_right (by simpa using h2), List.getElem?_append_right (by simpa using h2)]
      simp
theorem upP {ra : Nat → Nat} {n : Nat} : va_up (fun j => if j < n then some (ra j) else none) n (some (ra n)) = fun j => if j < n + 1 then some (ra j) else none := by
  funext j
  unfold va_up
  by_cases h : j = n
  · subst h; simp
  · rw [if_neg h]
    show (if j < n then some (ra j) else none) = _
    by_cases h2 : j < n
    · rw [if_pos h2, if_pos (by omega)]
    · rw [if_neg h2, if_neg (by omega)]
theorem upQ {ra g : Nat → Nat} {i r : Nat} : va_up (fun j => rfN ra (g j)) i (some (ra r)) = fun j => rfN ra (uN g i (r + 1) j) := by
  funext j
  unfold va_up
  by_cases h : j = i
  · subst h; rw [if_pos rfl, uN_s]; rfl
  · rw [if_neg h, uN_n h]
theorem nar_rf {C : String} {o : Option Nat} : narrow (.object C) (va_rf o) = va_rf o := by cases o <;> rfl
theorem fit_rf {C : String} {o : Option Nat} : fits (.object C) (va_rf o) = true := by cases o <;> rfl
section NVX
variable {p : Program} {l : Launch} {e : Env} {R : Room} {s : State} {m : MethodId} {args : Array Value} {below : List Frame} {meth : Method} {c : Code} {H : Heap} {locs : List Loc} {cells slots : Nat} {Q : State → Prop}
variable {cc : ByteArray} {pc : Nat} {ls : Array Slot} {rest st0 : List Value} {a : Array Value} {mc ms : Nat} {D : va_G} {cl : List vw_C} {tys : List (ClassId × FieldType)} {ws : va_W} {A : Nat → Prop} {H0 : Heap}
theorem nq_aast (f g : Nat → Option Nat) {q0 t0 qk ci q : Nat} {cA : ClassId} {r : vw_C} {n v i : Nat} {vs : List Value} (hx : p.tables.exec = Jvm.exec) (hb : c.code = cc) (hK : va_K D cl tys s) (hP : va_P D cl ws H) (hD : va_D A ws) (hS : va_S A H0 H locs) (ha : ws[q0]? = some (q, .inl (cA, n, .inr (.inr (.inr (.inr f)))))) (ht : tys[t0]? = some (cA, .object r.1)) (hv : ws[qk]? = some (v, .inr (ci, vs))) (hc : cl[ci]? = some r) (hin : i < n) (hn : n < 2 ^ 31) (hg : va_up f i (some v) = g) (hdg : decode cc pc = .ok (.aastore, 1))
    (kk : ∀ (H1 : Heap) (locs1 : List Loc), va_P D cl (ws.set q0 (q, .inl (cA, n, .inr (.inr (.inr (.inr g)))))) H1 → va_D A (ws.set q0 (q, .inl (cA, n, .inr (.inr (.inr (.inr g)))))) → va_S A H0 H1 locs1 → W p l e R s m args below meth c H1 locs1 cells slots Q (F0 m (pc + 1) ls rest)) : W p l e R s m args below meth c H locs cells slots Q (F0 m pc ls (.ref v :: .int (nI i) :: .ref q :: rest)) :=
  va_astq hx hb hK hP hD hS q0 t0 qk ci ha ht hv hc (vp_in_nI hin hn) hdg (by rw [nI_clamp (Nat.lt_trans hin hn), hg]; exact kk)
end NVX
end
section
/-! the class: the constructors of a row and a serving, takeIn (laid by wip/whole/gen/x2wr.py) -/
set_option maxHeartbeats 4000000 in
set_option maxRecDepth 100000 in
theorem c_X0_init (l : Launch) (dD : va_G) (cI cR cS : ClassId) (lo : Nat) (sz h0 : Nat) (v0 v1 v2 v3 v4 v5 : Int32) : Met l yX0_init wsX0_init ({ frames := 1, cells := 0, slots := 0, locals := 12 }) (ePc dD cI cR cS lo [.ref h0, .int v0, .int v1, .int v2, .int v3, .int v4, .int v5] (fun H => H.size = sz ∧ va_P dD vwCl [(h0, .inr (0, [.int 0, .int 0, .int 0, .int 0, .int 0, .int 0, .null]))] H ∧ va_D (fun _ => True) [(h0, .inr (0, [.int 0, .int 0, .int 0, .int 0, .int 0, .int 0, .null]))])) (va_Qv (fun (_ : Unit) => True) (fun _ t => va_P dD vwCl [(h0, .inr (0, [.int v0, .int v1, .int v2, .int v3, .int v4, .int v5, .null]))] t.heap) (va_A [(h0, .inr (0, [.int 0, .int 0, .int 0, .int 0, .int 0, .int 0, .null]))] sz)) 0 0 (va_A [(h0, .inr (0, [.int 0, .int 0, .int 0, .int 0, .int 0, .int 0, .null]))] sz) := by
  refine Met.ofW (cc := cX0_init) (maxL := 7) (ret := none) (by decide) rfl ?_
  intro p e_ s m args below meth c s₁ B hml hv
  obtain ⟨rfl, hE, hsz, hP, hD0⟩ := hv
  have hx := B.exec
  have hb := B.bytes
  have hr := B.returns
  have hts := atoms_spec (ws := wsX0_init) B.pre
  have hown : s.vm.findClass RX0 = some m.cls := findClass_of_methodNamed B.named
  have hlocks := B.notSynchronized
  have hK := hE.1.1
  have hinX0 : ∀ w ∈ u_ws RX0 TX0 7, w ∈ wsX0_init := by decide +kernel
  subst hsz
  have hin : meth.name = "<init>" := (name_of_methodNamed B.named B.method).1
  have hD := hD0.self (sz := s.heap.size)
  generalize hAe : va_A [(h0, .inr (0, [.int 0, .int 0, .int 0, .int 0, .int 0, .int 0, .null]))] s.heap.size = A at hD ⊢
  have hS : va_S A s.heap s.heap [] := va_S.rf
  have hP : va_P dD vwCl [(h0, .inr (0, [.int 0, .int 0, .int 0, .int 0, .int 0, .int 0, .null]))] s.heap := hP
  have hl := lv_entry ([.ref h0, .int v0, .int v1, .int v2, .int v3, .int v4, .int v5]) (n := 7) (Nat.le_of_ble_eq_true rfl)
  rw [lg_entry_eq]
  generalize (lg_sl ([.ref h0, .int v0, .int v1, .int v2, .int v3, .int v4, .int v5]) ++ List.replicate (7 - (lg_sl ([.ref h0, .int v0, .int v1, .int v2, .int v3, .int v4, .int v5])).length) Slot.unset).toArray = ls at hl ⊢
  have hl : lv_has ls 7 [(0, .ref h0), (1, .int v0), (2, .int v1), (3, .int v2), (4, .int v3), (5, .int v4), (6, .int v5)] := hl
  refine lv_aload_n hx hb dX0_init_0 rfl (lv_at hl 0 rfl) ?_
  refine W.objInit hx hb hown (hts (.methodLink RX0 1 objectInit) (by decide +kernel)) (hts (.instanceMethod objectInit) (by decide +kernel)) (hts (.code objectInit ⟨#[0xb1]⟩ 1 none) (by decide +kernel)) rfl (by rw [hml]; exact hl.1) rfl dX0_init_1 (Nat.le_of_ble_eq_true rfl) (Nat.le_of_ble_eq_true rfl) ?_
  refine W.eq (g2 := F0 m 4 ls []) rfl ?_
  refine lv_aload_n hx hb dX0_init_4 rfl (lv_at hl 0 rfl) ?_
  refine lv_iload_n hx hb dX0_init_5 rfl (lv_at hl 1 rfl) ?_
  refine va_putF (D := dD) (ci := 0) (v := .int v0) (ty := .int) (C := RX0) (T := TX0) (N := 7) hx hb hts hinX0 tyX0 tyX0_ok nmX0 hown hK hP hD hS 0 rfl rfl 0 (by decide) (hts (.fieldLink RX0 7 "FeatureStore$Row" "number" "I") (by decide +kernel)) (fun _ h9 => h9) rfl hin rfl (by decide +kernel) rfl rfl (Nat.le_of_ble_eq_true rfl) dX0_init_6 (fun H locs hP hD hS => ?_)
  have hP : va_P dD vwCl [(h0, .inr (0, [.int v0, .int 0, .int 0, .int 0, .int 0, .int 0, .null]))] H := hP
  have hD : va_D A [(h0, .inr (0, [.int v0, .int 0, .int 0, .int 0, .int 0, .int 0, .null]))] := hD
  refine lv_aload_n hx hb dX0_init_9 rfl (lv_at hl 0 rfl) ?_
  refine lv_iload_n hx hb dX0_init_10 rfl (lv_at hl 2 rfl) ?_
  refine va_putF (D := dD) (ci := 0) (v := .int v1) (ty := .int) (C := RX0) (T := TX0) (N := 7) hx hb hts hinX0 tyX0 tyX0_ok nmX0 hown hK hP hD hS 0 rfl rfl 1 (by decide) (hts (.fieldLink RX0 13 "FeatureStore$Row" "feature" "I") (by decide +kernel)) (fun _ h9 => h9) rfl hin rfl (by decide +kernel) rfl rfl (Nat.le_of_ble_eq_true rfl) dX0_init_11 (fun H locs hP hD hS => ?_)
  have hP : va_P dD vwCl [(h0, .inr (0, [.int v0, .int v1, .int 0, .int 0, .int 0, .int 0, .null]))] H := hP
  have hD : va_D A [(h0, .inr (0, [.int v0, .int v1, .int 0, .int 0, .int 0, .int 0, .null]))] := hD
  refine lv_aload_n hx hb dX0_init_14 rfl (lv_at hl 0 rfl) ?_
  refine lv_iload_n hx hb dX0_init_15 rfl (lv_at hl 3 rfl) ?_
  refine va_putF (D := dD) (ci := 0) (v := .int v2) (ty := .int) (C := RX0) (T := TX0) (N := 7) hx hb hts hinX0 tyX0 tyX0_ok nmX0 hown hK hP hD hS 0 rfl rfl 2 (by decide) (hts (.fieldLink RX0 16 "FeatureStore$Row" "entity" "I") (by decide +kernel)) (fun _ h9 => h9) rfl hin rfl (by decide +kernel) rfl rfl (Nat.le_of_ble_eq_true rfl) dX0_init_16 (fun H locs hP hD hS => ?_)
  have hP : va_P dD vwCl [(h0, .inr (0, [.int v0, .int v1, .int v2, .int 0, .int 0, .int 0, .null]))] H := hP
  have hD : va_D A [(h0, .inr (0, [.int v0, .int v1, .int v2, .int 0, .int 0, .int 0, .null]))] := hD
  refine lv_aload_n hx hb dX0_init_19 rfl (lv_at hl 0 rfl) ?_
  refine lv_iload hx hb dX0_init_20 (lv_at hl 4 rfl) ?_
  refine va_putF (D := dD) (ci := 0) (v := .int v3) (ty := .int) (C := RX0) (T := TX0) (N := 7) hx hb hts hinX0 tyX0 tyX0_ok nmX0 hown hK hP hD hS 0 rfl rfl 3 (by decide) (hts (.fieldLink RX0 19 "FeatureStore$Row" "event" "I") (by decide +kernel)) (fun _ h9 => h9) rfl hin rfl (by decide +kernel) rfl rfl (Nat.le_of_ble_eq_true rfl) dX0_init_22 (fun H locs hP hD hS => ?_)
  have hP : va_P dD vwCl [(h0, .inr (0, [.int v0, .int v1, .int v2, .int v3, .int 0, .int 0, .null]))] H := hP
  have hD : va_D A [(h0, .inr (0, [.int v0, .int v1, .int v2, .int v3, .int 0, .int 0, .null]))] := hD
  refine lv_aload_n hx hb dX0_init_25 rfl (lv_at hl 0 rfl) ?_
  refine lv_iload hx hb dX0_init_26 (lv_at hl 5 rfl) ?_
  refine va_putF (D := dD) (ci := 0) (v := .int v4) (ty := .int) (C := RX0) (T := TX0) (N := 7) hx hb hts hinX0 tyX0 tyX0_ok nmX0 hown hK hP hD hS 0 rfl rfl 4 (by decide) (hts (.fieldLink RX0 22 "FeatureStore$Row" "arrival" "I") (by decide +kernel)) (fun _ h9 => h9) rfl hin rfl (by decide +kernel) rfl rfl (Nat.le_of_ble_eq_true rfl) dX0_init_28 (fun H locs hP hD hS => ?_)
  have hP : va_P dD vwCl [(h0, .inr (0, [.int v0, .int v1, .int v2, .int v3, .int v4, .int 0, .null]))] H := hP
  have hD : va_D A [(h0, .inr (0, [.int v0, .int v1, .int v2, .int v3, .int v4, .int 0, .null]))] := hD
  refine lv_aload_n hx hb dX0_init_31 rfl (lv_at hl 0 rfl) ?_
  refine lv_iload hx hb dX0_init_32 (lv_at hl 6 rfl) ?_
  refine va_putF (D := dD) (ci := 0) (v := .int v5) (ty := .int) (C := RX0) (T := TX0) (N := 7) hx hb hts hinX0 tyX0 tyX0_ok nmX0 hown hK hP hD hS 0 rfl rfl 5 (by decide) (hts (.fieldLink RX0 25 "FeatureStore$Row" "value" "I") (by decide +kernel)) (fun _ h9 => h9) rfl hin rfl (by decide +kernel) rfl rfl (Nat.le_of_ble_eq_true rfl) dX0_init_34 (fun H locs hP hD hS => ?_)
  have hP : va_P dD vwCl [(h0, .inr (0, [.int v0, .int v1, .int v2, .int v3, .int v4, .int v5, .null]))] H := hP
  have hD : va_D A [(h0, .inr (0, [.int v0, .int v1, .int v2, .int v3, .int v4, .int v5, .null]))] := hD
  exact W.vret hx hb hr (fun u9 hu9 hW => ⟨⟨(), rfl, trivial, by have h9 := hP; rw [← hu9] at h9; exact h9⟩, hS.F hu9⟩) hS.2.2 dX0_init_37

set_option maxHeartbeats 4000000 in
set_option maxRecDepth 100000 in
theorem c_X1_init (l : Launch) (dD : va_G) (cI cR cS : ClassId) (lo : Nat) (sz h0 : Nat) (v0 v1 v2 v3 : Int32) : Met l yX1_init wsX1_init ({ frames := 1, cells := 0, slots := 0, locals := 12 }) (ePc dD cI cR cS lo [.ref h0, .int v0, .int v1, .int v2, .int v3] (fun H => H.size = sz ∧ va_P dD vwCl [(h0, .inr (1, [.int 0, .int 0, .int 0, .int 0]))] H ∧ va_D (fun _ => True) [(h0, .inr (1, [.int 0, .int 0, .int 0, .int 0]))])) (va_Qv (fun (_ : Unit) => True) (fun _ t => va_P dD vwCl [(h0, .inr (1, [.int v0, .int v1, .int v2, .int v3]))] t.heap) (va_A [(h0, .inr (1, [.int 0, .int 0, .int 0, .int 0]))] sz)) 0 0 (va_A [(h0, .inr (1, [.int 0, .int 0, .int 0, .int 0]))] sz) := by
  refine Met.ofW (cc := cX1_init) (maxL := 5) (ret := none) (by decide) rfl ?_
  intro p e_ s m args below meth c s₁ B hml hv
  obtain ⟨rfl, hE, hsz, hP, hD0⟩ := hv
  have hx := B.exec
  have hb := B.bytes
  have hr := B.returns
  have hts := atoms_spec (ws := wsX1_init) B.pre
  have hown : s.vm.findClass RX1 = some m.cls := findClass_of_methodNamed B.named
  have hlocks := B.notSynchronized
  have hK := hE.1.1
  have hinX1 : ∀ w ∈ u_ws RX1 TX1 4, w ∈ wsX1_init := by decide +kernel
  subst hsz
  have hin : meth.name = "<init>" := (name_of_methodNamed B.named B.method).1
  have hD := hD0.self (sz := s.heap.size)
  generalize hAe : va_A [(h0, .inr (1, [.int 0, .int 0, .int 0, .int 0]))] s.heap.size = A at hD ⊢
  have hS : va_S A s.heap s.heap [] := va_S.rf
  have hP : va_P dD vwCl [(h0, .inr (1, [.int 0, .int 0, .int 0, .int 0]))] s.heap := hP
  have hl := lv_entry ([.ref h0, .int v0, .int v1, .int v2, .int v3]) (n := 5) (Nat.le_of_ble_eq_true rfl)
  rw [lg_entry_eq]
  generalize (lg_sl ([.ref h0, .int v0, .int v1, .int v2, .int v3]) ++ List.replicate (5 - (lg_sl ([.ref h0, .int v0, .int v1, .int v2, .int v3])).length) Slot.unset).toArray = ls at hl ⊢
  have hl : lv_has ls 5 [(0, .ref h0), (1, .int v0), (2, .int v1), (3, .int v2), (4, .int v3)] := hl
  refine lv_aload_n hx hb dX1_init_0 rfl (lv_at hl 0 rfl) ?_
  refine W.objInit hx hb hown (hts (.methodLink RX1 1 objectInit) (by decide +kernel)) (hts (.instanceMethod objectInit) (by decide +kernel)) (hts (.code objectInit ⟨#[0xb1]⟩ 1 none) (by decide +kernel)) rfl (by rw [hml]; exact hl.1) rfl dX1_init_1 (Nat.le_of_ble_eq_true rfl) (Nat.le_of_ble_eq_true rfl) ?_
  refine W.eq (g2 := F0 m 4 ls []) rfl ?_
  refine lv_aload_n hx hb dX1_init_4 rfl (lv_at hl 0 rfl) ?_
  refine lv_iload_n hx hb dX1_init_5 rfl (lv_at hl 1 rfl) ?_
  refine va_putF (D := dD) (ci := 1) (v := .int v0) (ty := .int) (C := RX1) (T := TX1) (N := 4) hx hb hts hinX1 tyX1 tyX1_ok nmX1 hown hK hP hD hS 0 rfl rfl 0 (by decide) (hts (.fieldLink RX1 7 "FeatureStore$Serving" "feature" "I") (by decide +kernel)) (fun _ h9 => h9) rfl hin rfl (by decide +kernel) rfl rfl (Nat.le_of_ble_eq_true rfl) dX1_init_6 (fun H locs hP hD hS => ?_)
  have hP : va_P dD vwCl [(h0, .inr (1, [.int v0, .int 0, .int 0, .int 0]))] H := hP
  have hD : va_D A [(h0, .inr (1, [.int v0, .int 0, .int 0, .int 0]))] := hD
  refine lv_aload_n hx hb dX1_init_9 rfl (lv_at hl 0 rfl) ?_
  refine lv_iload_n hx hb dX1_init_10 rfl (lv_at hl 2 rfl) ?_
  refine va_putF (D := dD) (ci := 1) (v := .int v1) (ty := .int) (C := RX1) (T := TX1) (N := 4) hx hb hts hinX1 tyX1 tyX1_ok nmX1 hown hK hP hD hS 0 rfl rfl 1 (by decide) (hts (.fieldLink RX1 13 "FeatureStore$Serving" "entity" "I") (by decide +kernel)) (fun _ h9 => h9) rfl hin rfl (by decide +kernel) rfl rfl (Nat.le_of_ble_eq_true rfl) dX1_init_11 (fun H locs hP hD hS => ?_)
  have hP : va_P dD vwCl [(h0, .inr (1, [.int v0, .int v1, .int 0, .int 0]))] H := hP
  have hD : va_D A [(h0, .inr (1, [.int v0, .int v1, .int 0, .int 0]))] := hD
  refine lv_aload_n hx hb dX1_init_14 rfl (lv_at hl 0 rfl) ?_
  refine lv_iload_n hx hb dX1_init_15 rfl (lv_at hl 3 rfl) ?_
  refine va_putF (D := dD) (ci := 1) (v := .int v2) (ty := .int) (C := RX1) (T := TX1) (N := 4) hx hb hts hinX1 tyX1 tyX1_ok nmX1 hown hK hP hD hS 0 rfl rfl 2 (by decide) (hts (.fieldLink RX1 16 "FeatureStore$Serving" "time" "I") (by decide +kernel)) (fun _ h9 => h9) rfl hin rfl (by decide +kernel) rfl rfl (Nat.le_of_ble_eq_true rfl) dX1_init_16 (fun H locs hP hD hS => ?_)
  have hP : va_P dD vwCl [(h0, .inr (1, [.int v0, .int v1, .int v2, .int 0]))] H := hP
  have hD : va_D A [(h0, .inr (1, [.int v0, .int v1, .int v2, .int 0]))] := hD
  refine lv_aload_n hx hb dX1_init_19 rfl (lv_at hl 0 rfl) ?_
  refine lv_iload hx hb dX1_init_20 (lv_at hl 4 rfl) ?_
  refine va_putF (D := dD) (ci := 1) (v := .int v3) (ty := .int) (C := RX1) (T := TX1) (N := 4) hx hb hts hinX1 tyX1 tyX1_ok nmX1 hown hK hP hD hS 0 rfl rfl 3 (by decide) (hts (.fieldLink RX1 19 "FeatureStore$Serving" "row" "I") (by decide +kernel)) (fun _ h9 => h9) rfl hin rfl (by decide +kernel) rfl rfl (Nat.le_of_ble_eq_true rfl) dX1_init_22 (fun H locs hP hD hS => ?_)
  have hP : va_P dD vwCl [(h0, .inr (1, [.int v0, .int v1, .int v2, .int v3]))] H := hP
  have hD : va_D A [(h0, .inr (1, [.int v0, .int v1, .int v2, .int v3]))] := hD
  exact W.vret hx hb hr (fun u9 hu9 hW => ⟨⟨(), rfl, trivial, by have h9 := hP; rw [← hu9] at h9; exact h9⟩, hS.F hu9⟩) hS.2.2 dX1_init_25

/-- the online copy behind a change is taken in -/
def q_in (σ : St) (c : Nat) : St := if s_cp σ (s_pr σ c) = 0 ∨ s_ev σ (s_cp σ (s_pr σ c) - 1) ≤ s_ev σ c then setS σ 9 (uN (s_cp σ) (s_pr σ c) (c + 1)) else σ
theorem take1_in (σ : St) : q_take1 σ = setS (q_in σ (s_tk σ)) 2 (fun _ => s_tk σ + 1) := rfl

set_option maxHeartbeats 4000000 in
set_option maxRecDepth 100000 in
theorem c_X2_takeIn (l : Launch) (dD : va_G) (cI cR cS : ClassId) (lo : Nat) (sz : Nat) (hlo : lo ≤ sz) (x0 : Nat) (b ra sb hd ol : Nat → Nat) (σ : St) (hI : sI σ) (c_ : Nat) (hc_ : c_ < s_n σ) : Met l yX2_takeIn wsX2_takeIn ({ frames := 1, cells := 0, slots := 0, locals := 21 }) (ePc dD cI cR cS lo [.ref x0, .ref (ra c_)] (fun H => H.size = sz ∧ va_P dD vwCl (xW cI cR cS x0 b ra sb hd ol σ) H ∧ va_D (fun q => lo ≤ q) (xW cI cR cS x0 b ra sb hd ol σ))) (va_Qv (fun (u : St) => u = q_in σ c_) (fun u t => va_P dD vwCl (xW cI cR cS x0 b ra sb hd ol u) t.heap) (va_A (xW cI cR cS x0 b ra sb hd ol σ) sz)) 0 0 (va_A (xW cI cR cS x0 b ra sb hd ol σ) sz) := by
  refine Met.ofW (cc := cX2_takeIn) (maxL := 4) (ret := none) (by decide) rfl ?_
  intro p e_ s m args below meth c s₁ B hml hv
  obtain ⟨rfl, hE, hsz, hP, hD0⟩ := hv
  have hx := B.exec
  have hb := B.bytes
  have hr := B.returns
  have hts := atoms_spec (ws := wsX2_takeIn) B.pre
  have hown : s.vm.findClass RX2 = some m.cls := findClass_of_methodNamed B.named
  have hlocks := B.notSynchronized
  have hK := hE.1.1
  have hinX0 : ∀ w ∈ u_ws RX0 TX0 7, w ∈ wsX2_takeIn := by decide +kernel
  have hinX2 : ∀ w ∈ u_ws RX2 TX2 9, w ∈ wsX2_takeIn := by decide +kernel
  subst hsz
  have hD := hD0.self (sz := s.heap.size)
  have hAlo : ∀ q, va_A (xW cI cR cS x0 b ra sb hd ol σ) s.heap.size q → lo ≤ q := eA_lo hD0 hlo
  generalize hAe : va_A (xW cI cR cS x0 b ra sb hd ol σ) s.heap.size = A at hD hAlo ⊢
  have hA : ∀ q : Nat, s.heap.size ≤ q → A q := fun q h => by rw [← hAe]; exact Or.inr h
  have hS : va_S A s.heap s.heap [] := va_S.rf
  have hP : va_P dD vwCl (xW cI cR cS x0 b ra sb hd ol σ) s.heap := hP
  obtain ⟨i_now, i_n, i_tk, i_k, i_lt, i_row, i_cp, i_srv⟩ := id hI
  have hl := lv_entry ([.ref x0, .ref (ra c_)]) (n := 4) (Nat.le_of_ble_eq_true rfl)
  rw [lg_entry_eq]
  generalize (lg_sl ([.ref x0, .ref (ra c_)]) ++ List.replicate (4 - (lg_sl ([.ref x0, .ref (ra c_)])).length) Slot.unset).toArray = ls at hl ⊢
  have hl : lv_has ls 4 [(0, .ref x0), (1, .ref (ra c_))] := hl
  have hz_c := hc_
  obtain ⟨hz_1, hz_2, hz_3, hz_4⟩ := i_row c_ hz_c
  obtain ⟨hz_5, hz_6⟩ := i_cp (s_pr σ c_) hz_1
  have hR := xRow hP hz_c
  refine lv_aload_n hx hb dX2_takeIn_0 rfl (lv_at hl 1 rfl) ?_
  refine va_get (D := dD) (ci := 0) (v := .int (nI (s_pr σ c_ / 10))) (C := RX0) (T := TX0) (N := 7) hx hb hts hinX0 hown hK hR 0 rfl rfl 1 (by decide) (hts (.fieldLink RX2 154 "FeatureStore$Row" "feature" "I") (by decide +kernel)) (fun _ h9 => h9) rfl dX2_takeIn_1 ?_
  refine lv_aload_n hx hb dX2_takeIn_4 rfl (lv_at hl 1 rfl) ?_
  refine va_get (D := dD) (ci := 0) (v := .int (nI (s_pr σ c_ % 10))) (C := RX0) (T := TX0) (N := 7) hx hb hts hinX0 hown hK hR 0 rfl rfl 2 (by decide) (hts (.fieldLink RX2 155 "FeatureStore$Row" "entity" "I") (by decide +kernel)) (fun _ h9 => h9) rfl dX2_takeIn_5 ?_
  refine vp_callSi (va_Run.run (va_runS (As := [.int (nI (s_pr σ c_ / 10)), .int (nI (s_pr σ c_ % 10))]) (rest := []) ⟨hx, hb, hml, hown, hts⟩ (c_X2_placeOf l dD cI cR cS lo (s_pr σ c_ / 10) (s_pr σ c_ % 10)) (va_cwS 2 hts gX2_takeIn_X2_placeOf rfl rfl rfl (by decide +kernel) ⟨Nat.le_of_ble_eq_true rfl, Nat.le_of_ble_eq_true rfl⟩) (ePreS hE (hS.mono hAlo) trivial) rfl rfl hl.1 rfl (lv_room (Nat.le_of_ble_eq_true rfl)) dX2_takeIn_8 ⟨Nat.le_of_ble_eq_true rfl, Nat.le_of_ble_eq_true rfl⟩)) (fun r_8 hr_8 => ?_)
  subst hr_8
  rw [show 10 * (s_pr σ c_ / 10) + (s_pr σ c_ % 10) = s_pr σ c_ from by omega]
  refine lv_istore_n (lv' := [(2, .int (nI (s_pr σ c_))), (0, .ref x0), (1, .ref (ra c_))]) hx hb dX2_takeIn_11 rfl hl (by decide) rfl (fun ls hl => ?_)
  refine lv_aload_n hx hb dX2_takeIn_12 rfl (lv_at hl 1 rfl) ?_
  refine va_get (D := dD) (ci := 2) (v := .ref (b 3)) (C := RX2) (T := TX2) (N := 9) hx hb hts hinX2 hown hK hP 0 rfl rfl 5 (by decide) (hts (.fieldLink RX2 22 "FeatureStore" "onlineCopy" "[LFeatureStore$Row;") (by decide +kernel)) (fun _ h9 => h9) rfl dX2_takeIn_13 ?_
  refine lv_iload_n hx hb dX2_takeIn_16 rfl (lv_at hl 0 rfl) ?_
  refine nq_aald (q0 := 4) (t0 := 1) (fun j => rfN ra (s_cp σ j)) hx hb hK hP rfl rfl (by omega) (by decide) dX2_takeIn_17 ?_
  have hz_e : ∀ r, s_cp σ (s_pr σ c_) = r + 1 → r < s_n σ := fun r hr => by omega
  have hsplit : ∀ v, v = s_cp σ (s_pr σ c_) → v = 0 ∨ ∃ r, v = r + 1 := fun v _ => by cases v with
    | zero => exact Or.inl rfl
    | succ r => exact Or.inr ⟨r, rfl⟩
  rcases hsplit _ rfl with hc0 | ⟨r_, hc0⟩
  · rw [hc0]
    refine W.eq (g2 := F0 m 18 ls [.null]) rfl ?_
    refine lv_astore_nN (lv' := [(3, .null), (2, .int (nI (s_pr σ c_))), (0, .ref x0), (1, .ref (ra c_))]) hx hb dX2_takeIn_18 rfl hl (by decide) rfl (fun ls hl => ?_)
    refine lv_aload_nN hx hb dX2_takeIn_19 rfl (lv_at hl 0 rfl) ?_
    refine lv_ifnullN (tgt := 34) hx hb dX2_takeIn_20 (by decide) ?_
    refine lv_aload_n hx hb dX2_takeIn_34 rfl (lv_at hl 2 rfl) ?_
    refine va_get (D := dD) (ci := 2) (v := .ref (b 3)) (C := RX2) (T := TX2) (N := 9) hx hb hts hinX2 hown hK hP 0 rfl rfl 5 (by decide) (hts (.fieldLink RX2 22 "FeatureStore" "onlineCopy" "[LFeatureStore$Row;") (by decide +kernel)) (fun _ h9 => h9) rfl dX2_takeIn_35 ?_
    refine lv_iload_n hx hb dX2_takeIn_38 rfl (lv_at hl 1 rfl) ?_
    refine lv_aload_n hx hb dX2_takeIn_39 rfl (lv_at hl 3 rfl) ?_
    refine nq_aast (q0 := 4) (t0 := 1) (qk := c_ + 6) (ci := 0) (r := (RX0, TX0, 7)) (fun j => rfN ra (s_cp σ j)) (fun j => rfN ra (uN (s_cp σ) (s_pr σ c_) (c_ + 1) j)) hx hb hK hP hD hS rfl rfl (pool_row hz_c) rfl (by omega) (by decide) upQ dX2_takeIn_40 (fun H locs hP hD hS => ?_)
    have hP : va_P dD vwCl ((x0, .inr (2, [.int (nI (s_now σ)), .ref (b 0), .ref (b 1), .int (nI (s_n σ)), .ref (b 2), .ref (b 3), .int (nI (s_tk σ)), .ref (b 4), .int (nI (s_k σ))])) :: (b 0, .inl (cI, 6, .inl (fun j => nI (s_lt σ j)))) :: (b 1, .inl (cR, 200, .inr (.inr (.inr (.inr (fun j => if j < s_n σ then some (ra j) else none)))))) :: (b 2, .inl (cR, 60, .inr (.inr (.inr (.inr (fun j => rfN ra (hd j))))))) :: (b 3, .inl (cR, 60, .inr (.inr (.inr (.inr (fun j => rfN ra ((uN (s_cp σ) (s_pr σ c_) (c_ + 1)) j))))))) :: (b 4, .inl (cS, 200, .inr (.inr (.inr (.inr (fun j => if j < s_k σ then some (sb j) else none)))))) :: (poolE ra sb ol σ (s_n σ) (s_k σ))) H := hP
    have hD : va_D A ((x0, .inr (2, [.int (nI (s_now σ)), .ref (b 0), .ref (b 1), .int (nI (s_n σ)), .ref (b 2), .ref (b 3), .int (nI (s_tk σ)), .ref (b 4), .int (nI (s_k σ))])) :: (b 0, .inl (cI, 6, .inl (fun j => nI (s_lt σ j)))) :: (b 1, .inl (cR, 200, .inr (.inr (.inr (.inr (fun j => if j < s_n σ then some (ra j) else none)))))) :: (b 2, .inl (cR, 60, .inr (.inr (.inr (.inr (fun j => rfN ra (hd j))))))) :: (b 3, .inl (cR, 60, .inr (.inr (.inr (.inr (fun j => rfN ra ((uN (s_cp σ) (s_pr σ c_) (c_ + 1)) j))))))) :: (b 4, .inl (cS, 200, .inr (.inr (.inr (.inr (fun j => if j < s_k σ then some (sb j) else none)))))) :: (poolE ra sb ol σ (s_n σ) (s_k σ))) := hD
    exact W.vret hx hb hr (fun u9 hu9 hW => ⟨⟨setS σ 9 (uN (s_cp σ) (s_pr σ c_) (c_ + 1)), rfl, by show _ = q_in σ c_; unfold q_in; rw [if_pos (Or.inl hc0)], by have h9 := hP; rw [← hu9] at h9; exact h9⟩, hS.F hu9⟩) hS.2.2 dX2_takeIn_41
  · rw [hc0]
    refine W.eq (g2 := F0 m 18 ls [.ref (ra r_)]) rfl ?_
    obtain ⟨hy_1, hy_2, hy_3, hy_4⟩ := i_row r_ (hz_e r_ hc0)
    have hR2 := xRow hP (hz_e r_ hc0)
    refine lv_astore_n (lv' := [(3, .ref (ra r_)), (2, .int (nI (s_pr σ c_))), (0, .ref x0), (1, .ref (ra c_))]) hx hb dX2_takeIn_18 rfl hl (by decide) rfl (fun ls hl => ?_)
    refine lv_aload_n hx hb dX2_takeIn_19 rfl (lv_at hl 0 rfl) ?_
    refine lv_ifnull hx hb dX2_takeIn_20 ?_
    refine lv_aload_n hx hb dX2_takeIn_23 rfl (lv_at hl 0 rfl) ?_
    refine va_get (D := dD) (ci := 0) (v := .int (nI (s_ev σ r_))) (C := RX0) (T := TX0) (N := 7) hx hb hts hinX0 hown hK hR2 0 rfl rfl 3 (by decide) (hts (.fieldLink RX2 76 "FeatureStore$Row" "event" "I") (by decide +kernel)) (fun _ h9 => h9) rfl dX2_takeIn_24 ?_
    refine lv_aload_n hx hb dX2_takeIn_27 rfl (lv_at hl 3 rfl) ?_
    refine va_get (D := dD) (ci := 0) (v := .int (nI (s_ev σ c_))) (C := RX0) (T := TX0) (N := 7) hx hb hts hinX0 hown hK hR 0 rfl rfl 3 (by decide) (hts (.fieldLink RX2 76 "FeatureStore$Row" "event" "I") (by decide +kernel)) (fun _ h9 => h9) rfl dX2_takeIn_28 ?_
    refine nv_gt (tgt := 41) hx hb dX2_takeIn_31 (by decide) (by omega) (by omega) (fun c_31 => ?_) (fun c_31 => ?_)
    · exact W.vret hx hb hr (fun u9 hu9 hW => ⟨⟨σ, rfl, by show _ = q_in σ c_; unfold q_in; rw [if_neg (by rintro (z | z); omega; rw [hc0, Nat.add_sub_cancel] at z; omega)], by have h9 := hP; rw [← hu9] at h9; exact h9⟩, hS.F hu9⟩) hS.2.2 dX2_takeIn_41
    · refine lv_aload_n hx hb dX2_takeIn_34 rfl (lv_at hl 2 rfl) ?_
      refine va_get (D := dD) (ci := 2) (v := .ref (b 3)) (C := RX2) (T := TX2) (N := 9) hx hb hts hinX2 hown hK hP 0 rfl rfl 5 (by decide) (hts (.fieldLink RX2 22 "FeatureStore" "onlineCopy" "[LFeatureStore$Row;") (by decide +kernel)) (fun _ h9 => h9) rfl dX2_takeIn_35 ?_
      refine lv_iload_n hx hb dX2_takeIn_38 rfl (lv_at hl 1 rfl) ?_
      refine lv_aload_n hx hb dX2_takeIn_39 rfl (lv_at hl 3 rfl) ?_
      refine nq_aast (q0 := 4) (t0 := 1) (qk := c_ + 6) (ci := 0) (r := (RX0, TX0, 7)) (fun j => rfN ra (s_cp σ j)) (fun j => rfN ra (uN (s_cp σ) (s_pr σ c_) (c_ + 1) j)) hx hb hK hP hD hS rfl rfl (pool_row hz_c) rfl (by omega) (by decide) upQ dX2_takeIn_40 (fun H locs hP hD hS => ?_)
      have hP : va_P dD vwCl ((x0, .inr (2, [.int (nI (s_now σ)), .ref (b 0), .ref (b 1), .int (nI (s_n σ)), .ref (b 2), .ref (b 3), .int (nI (s_tk σ)), .ref (b 4), .int (nI (s_k σ))])) :: (b 0, .inl (cI, 6, .inl (fun j => nI (s_lt σ j)))) :: (b 1, .inl (cR, 200, .inr (.inr (.inr (.inr (fun j => if j < s_n σ then some (ra j) else none)))))) :: (b 2, .inl (cR, 60, .inr (.inr (.inr (.inr (fun j => rfN ra (hd j))))))) :: (b 3, .inl (cR, 60, .inr (.inr (.inr (.inr (fun j => rfN ra ((uN (s_cp σ) (s_pr σ c_) (c_ + 1)) j))))))) :: (b 4, .inl (cS, 200, .inr (.inr (.inr (.inr (fun j => if j < s_k σ then some (sb j) else none)))))) :: (poolE ra sb ol σ (s_n σ) (s_k σ))) H := hP
      have hD : va_D A ((x0, .inr (2, [.int (nI (s_now σ)), .ref (b 0), .ref (b 1), .int (nI (s_n σ)), .ref (b 2), .ref (b 3), .int (nI (s_tk σ)), .ref (b 4), .int (nI (s_k σ))])) :: (b 0, .inl (cI, 6, .inl (fun j => nI (s_lt σ j)))) :: (b 1, .inl (cR, 200, .inr (.inr (.inr (.inr (fun j => if j < s_n σ then some (ra j) else none)))))) :: (b 2, .inl (cR, 60, .inr (.inr (.inr (.inr (fun j => rfN ra (hd j))))))) :: (b 3, .inl (cR, 60, .inr (.inr (.inr (.inr (fun j => rfN ra ((uN (s_cp σ) (s_pr σ c_) (c_ + 1)) j))))))) :: (b 4, .inl (cS, 200, .inr (.inr (.inr (.inr (fun j => if j < s_k σ then some (sb j) else none)))))) :: (poolE ra sb ol σ (s_n σ) (s_k σ))) := hD
      exact W.vret hx hb hr (fun u9 hu9 hW => ⟨⟨setS σ 9 (uN (s_cp σ) (s_pr σ c_) (c_ + 1)), rfl, by show _ = q_in σ c_; unfold q_in; rw [if_pos (Or.inr (by rw [hc0, Nat.add_sub_cancel]; omega))], by have h9 := hP; rw [← hu9] at h9; exact h9⟩, hS.F hu9⟩) hS.2.2 dX2_takeIn_41
end
section
/-! the class: pass, setLifetime, take (laid by wip/whole/gen/x2wr2.py) -/
set_option maxHeartbeats 4000000 in
set_option maxRecDepth 100000 in
theorem c_X2_pass (l : Launch) (dD : va_G) (cI cR cS : ClassId) (lo : Nat) (hfl : l.stackTraces = false) (sz : Nat) (hlo : lo ≤ sz) (x0 : Nat) (b ra sb hd ol : Nat → Nat) (σ : St) (hI : sI σ) (t : Int32) : vx_Met l yX2_pass wsX2_pass ({ frames := 7, cells := 2, slots := 12, locals := 104 }) (ePc dD cI cR cS lo [.ref x0, .int t] (fun H => H.size = sz ∧ va_P dD vwCl (xW cI cR cS x0 b ra sb hd ol σ) H ∧ va_D (fun q => lo ≤ q) (xW cI cR cS x0 b ra sb hd ol σ))) (va_Qi (fun (r : Int32) (u : St) => (rg t 1 10000 ∧ s_now σ + cl t ≤ 10000) ∧ u = g_pass σ (cl t) ∧ r = nI (s_now σ + cl t)) (fun u t => va_P dD vwCl (xW cI cR cS x0 b ra sb hd ol u) t.heap) (va_A (xW cI cR cS x0 b ra sb hd ol σ) sz)) (eX (fun E => (E = nIAE ∧ ¬ rg t 1 10000) ∨ (E = nISE ∧ rg t 1 10000 ∧ ¬ s_now σ + cl t ≤ 10000))) 2 12 (va_A (xW cI cR cS x0 b ra sb hd ol σ) sz) := by
  refine vx_ofW (cc := cX2_pass) (maxL := 2) (ret := (some .int)) (by decide) rfl ?_
  intro p e_ s m args below meth c s₁ B hml hnt hv
  obtain ⟨rfl, hE, hsz, hP, hD0⟩ := hv
  have hx := B.exec
  have hb := B.bytes
  have hr := B.returns
  have hts := atoms_spec (ws := wsX2_pass) B.pre
  have hown : s.vm.findClass RX2 = some m.cls := findClass_of_methodNamed B.named
  have hlocks := B.notSynchronized
  have hK := hE.1.1
  have hinX2 : ∀ w ∈ u_ws RX2 TX2 9, w ∈ wsX2_pass := by decide +kernel
  subst hsz
  have hD := hD0.self (sz := s.heap.size)
  have hAlo : ∀ q, va_A (xW cI cR cS x0 b ra sb hd ol σ) s.heap.size q → lo ≤ q := eA_lo hD0 hlo
  generalize hAe : va_A (xW cI cR cS x0 b ra sb hd ol σ) s.heap.size = A at hD hAlo ⊢
  have hA : ∀ q : Nat, s.heap.size ≤ q → A q := fun q h => by rw [← hAe]; exact Or.inr h
  have hS : va_S A s.heap s.heap [] := va_S.rf
  have hP : va_P dD vwCl (xW cI cR cS x0 b ra sb hd ol σ) s.heap := hP
  obtain ⟨i_now, i_n, i_tk, i_k, i_lt, i_row, i_cp, i_srv⟩ := id hI
  have hl := lv_entry ([.ref x0, .int t]) (n := 2) (Nat.le_of_ble_eq_true rfl)
  rw [lg_entry_eq]
  generalize (lg_sl ([.ref x0, .int t]) ++ List.replicate (2 - (lg_sl ([.ref x0, .int t])).length) Slot.unset).toArray = ls at hl ⊢
  have hl : lv_has ls 2 [(0, .ref x0), (1, .int t)] := hl
  refine lv_iload_n hx hb dX2_pass_0 rfl (lv_at hl 1 rfl) ?_
  refine lv_iconst (v := nI 1) hx hb dX2_pass_1 (by decide +kernel) ?_
  refine lv_sipush (v := nI 10000) hx hb dX2_pass_2 (by decide +kernel) ?_
  refine nx_callv (vx_runS (As := [.int t, .int (nI 1), .int (nI 10000)]) (rest := []) ⟨hx, hb, hml, hown, hts⟩ (c_X2_requireRange l dD cI cR cS lo hfl t (nI 1) (nI 10000)) (va_cwS 3 hts gX2_pass_X2_requireRange rfl rfl rfl (by decide +kernel) ⟨Nat.le_of_ble_eq_true rfl, Nat.le_of_ble_eq_true rfl⟩) (ePreS hE va_S.rf trivial) rfl rfl hl.1 rfl (lv_room (Nat.le_of_ble_eq_true rfl)) dX2_pass_5 ⟨Nat.le_of_ble_eq_true rfl, Nat.le_of_ble_eq_true rfl⟩) (fun E ce q9 H1 hX9 hz9 hk9 hc9 hv9 hf9 => vx_out (fun x hx => (hnt x hx).elim) hlocks hc9 hv9 hf9 (fun t9 ht9 _ => ⟨Or.inl hX9, by rw [ht9]; exact hz9, fun q hq _ => by rw [ht9]; exact hk9 q hq⟩) (fun z hz => absurd hz List.not_mem_nil) (by decide) (by decide)) (fun hr_5 => ?_)
  obtain ⟨tn, htn1, htn2, rfl⟩ := rg_of (by decide) (by decide) (hr_5)
  refine lv_iload_n hx hb dX2_pass_8 rfl (lv_at hl 1 rfl) ?_
  refine lv_sipush (v := nI 10000) hx hb dX2_pass_9 (by decide +kernel) ?_
  refine lv_aload_n hx hb dX2_pass_12 rfl (lv_at hl 0 rfl) ?_
  refine va_get (D := dD) (ci := 2) (v := .int (nI (s_now σ))) (C := RX2) (T := TX2) (N := 9) hx hb hts hinX2 hown hK hP 0 rfl rfl 0 (by decide) (hts (.fieldLink RX2 35 "FeatureStore" "now" "I") (by decide +kernel)) (fun _ h9 => h9) rfl dX2_pass_13 ?_
  refine nv_isub hx hb dX2_pass_16 (by omega) ?_
  refine nv_le (tgt := 30) hx hb dX2_pass_17 (by decide) (by omega) (by omega) (fun c_17 => ?_) (fun c_17 => ?_)
  · refine lv_aload_n hx hb dX2_pass_30 rfl (lv_at hl 0 rfl) ?_
    refine lv_dup hx hb dX2_pass_31 rfl ?_
    refine va_get (D := dD) (ci := 2) (v := .int (nI (s_now σ))) (C := RX2) (T := TX2) (N := 9) hx hb hts hinX2 hown hK hP 0 rfl rfl 0 (by decide) (hts (.fieldLink RX2 35 "FeatureStore" "now" "I") (by decide +kernel)) (fun _ h9 => h9) rfl dX2_pass_32 ?_
    refine lv_iload_n hx hb dX2_pass_35 rfl (lv_at hl 1 rfl) ?_
    refine nv_iadd hx hb dX2_pass_36 ?_
    refine va_put (D := dD) (ci := 2) (v := .int (nI ((s_now σ) + tn))) (ty := .int) (C := RX2) (T := TX2) (N := 9) hx hb hts hinX2 tyX2 tyX2_ok nmX2 hown hK hP hD hS 0 rfl rfl 0 (by decide) (hts (.fieldLink RX2 35 "FeatureStore" "now" "I") (by decide +kernel)) (fun _ h9 => h9) rfl (by decide +kernel) rfl rfl (Nat.le_of_ble_eq_true rfl) dX2_pass_37 (fun H locs hP hD hS => ?_)
    have hP : va_P dD vwCl ((x0, .inr (2, [.int (nI ((s_now σ) + tn)), .ref (b 0), .ref (b 1), .int (nI (s_n σ)), .ref (b 2), .ref (b 3), .int (nI (s_tk σ)), .ref (b 4), .int (nI (s_k σ))])) :: (b 0, .inl (cI, 6, .inl (fun j => nI (s_lt σ j)))) :: (b 1, .inl (cR, 200, .inr (.inr (.inr (.inr (fun j => if j < s_n σ then some (ra j) else none)))))) :: (b 2, .inl (cR, 60, .inr (.inr (.inr (.inr (fun j => rfN ra (hd j))))))) :: (b 3, .inl (cR, 60, .inr (.inr (.inr (.inr (fun j => rfN ra (s_cp σ j))))))) :: (b 4, .inl (cS, 200, .inr (.inr (.inr (.inr (fun j => if j < s_k σ then some (sb j) else none)))))) :: (poolE ra sb ol σ (s_n σ) (s_k σ))) H := hP
    have hD : va_D A ((x0, .inr (2, [.int (nI ((s_now σ) + tn)), .ref (b 0), .ref (b 1), .int (nI (s_n σ)), .ref (b 2), .ref (b 3), .int (nI (s_tk σ)), .ref (b 4), .int (nI (s_k σ))])) :: (b 0, .inl (cI, 6, .inl (fun j => nI (s_lt σ j)))) :: (b 1, .inl (cR, 200, .inr (.inr (.inr (.inr (fun j => if j < s_n σ then some (ra j) else none)))))) :: (b 2, .inl (cR, 60, .inr (.inr (.inr (.inr (fun j => rfN ra (hd j))))))) :: (b 3, .inl (cR, 60, .inr (.inr (.inr (.inr (fun j => rfN ra (s_cp σ j))))))) :: (b 4, .inl (cS, 200, .inr (.inr (.inr (.inr (fun j => if j < s_k σ then some (sb j) else none)))))) :: (poolE ra sb ol σ (s_n σ) (s_k σ))) := hD
    refine lv_aload_n hx hb dX2_pass_40 rfl (lv_at hl 0 rfl) ?_
    refine va_get (D := dD) (ci := 2) (v := .int (nI ((s_now σ) + tn))) (C := RX2) (T := TX2) (N := 9) hx hb hts hinX2 hown hK hP 0 rfl rfl 0 (by decide) (hts (.fieldLink RX2 35 "FeatureStore" "now" "I") (by decide +kernel)) (fun _ h9 => h9) rfl dX2_pass_41 ?_
    exact vx_ret (W.widen (k := 2) (n := 12) (by decide) (by decide) (W.iret (v := nI ((s_now σ) + tn)) hx hb hr (fun u9 hu9 hW => ⟨⟨nI ((s_now σ) + tn), g_pass σ tn, rfl, ⟨⟨hr_5, by rw [cl_nI (by omega)]; omega⟩, by rw [cl_nI (by omega)], by rw [cl_nI (by omega)]⟩, by have h9 := hP; rw [← hu9] at h9; exact h9⟩, hS.F hu9⟩) hS.2.2 dX2_pass_44))
  · exact nx_throw hx hb hfl hown hml hnt hlocks hts (by decide +kernel) (by decide +kernel) bad_ise ot_ise hE hE.1.2.2.1 hl dX2_pass_20 dX2_pass_23 dX2_pass_24 dX2_pass_26 dX2_pass_29 (Nat.le_of_ble_eq_true rfl) (Nat.le_of_ble_eq_true rfl) (Nat.le_of_ble_eq_true rfl) (Nat.le_of_ble_eq_true rfl) (Or.inr ⟨rfl, hr_5, by rw [cl_nI (by omega)]; omega⟩) (by decide) (by decide)

set_option maxHeartbeats 4000000 in
set_option maxRecDepth 100000 in
theorem c_X2_setLifetime (l : Launch) (dD : va_G) (cI cR cS : ClassId) (lo : Nat) (hfl : l.stackTraces = false) (sz : Nat) (hlo : lo ≤ sz) (x0 : Nat) (b ra sb hd ol : Nat → Nat) (σ : St) (hI : sI σ) (f t : Int32) : vx_Met l yX2_setLifetime wsX2_setLifetime ({ frames := 7, cells := 2, slots := 12, locals := 104 }) (ePc dD cI cR cS lo [.ref x0, .int f, .int t] (fun H => H.size = sz ∧ va_P dD vwCl (xW cI cR cS x0 b ra sb hd ol σ) H ∧ va_D (fun q => lo ≤ q) (xW cI cR cS x0 b ra sb hd ol σ))) (va_Qi (fun (r : Int32) (u : St) => (rg f 0 5 ∧ rg t 0 10000) ∧ u = g_setL σ (cl f) (cl t) ∧ r = nI (s_lt σ (cl f))) (fun u t => va_P dD vwCl (xW cI cR cS x0 b ra sb hd ol u) t.heap) (va_A (xW cI cR cS x0 b ra sb hd ol σ) sz)) (eX (fun E => E = nIAE ∧ ¬ (rg f 0 5 ∧ rg t 0 10000))) 2 12 (va_A (xW cI cR cS x0 b ra sb hd ol σ) sz) := by
  refine vx_ofW (cc := cX2_setLifetime) (maxL := 4) (ret := (some .int)) (by decide) rfl ?_
  intro p e_ s m args below meth c s₁ B hml hnt hv
  obtain ⟨rfl, hE, hsz, hP, hD0⟩ := hv
  have hx := B.exec
  have hb := B.bytes
  have hr := B.returns
  have hts := atoms_spec (ws := wsX2_setLifetime) B.pre
  have hown : s.vm.findClass RX2 = some m.cls := findClass_of_methodNamed B.named
  have hlocks := B.notSynchronized
  have hK := hE.1.1
  have hinX2 : ∀ w ∈ u_ws RX2 TX2 9, w ∈ wsX2_setLifetime := by decide +kernel
  subst hsz
  have hD := hD0.self (sz := s.heap.size)
  have hAlo : ∀ q, va_A (xW cI cR cS x0 b ra sb hd ol σ) s.heap.size q → lo ≤ q := eA_lo hD0 hlo
  generalize hAe : va_A (xW cI cR cS x0 b ra sb hd ol σ) s.heap.size = A at hD hAlo ⊢
  have hA : ∀ q : Nat, s.heap.size ≤ q → A q := fun q h => by rw [← hAe]; exact Or.inr h
  have hS : va_S A s.heap s.heap [] := va_S.rf
  have hP : va_P dD vwCl (xW cI cR cS x0 b ra sb hd ol σ) s.heap := hP
  obtain ⟨i_now, i_n, i_tk, i_k, i_lt, i_row, i_cp, i_srv⟩ := id hI
  have hl := lv_entry ([.ref x0, .int f, .int t]) (n := 4) (Nat.le_of_ble_eq_true rfl)
  rw [lg_entry_eq]
  generalize (lg_sl ([.ref x0, .int f, .int t]) ++ List.replicate (4 - (lg_sl ([.ref x0, .int f, .int t])).length) Slot.unset).toArray = ls at hl ⊢
  have hl : lv_has ls 4 [(0, .ref x0), (1, .int f), (2, .int t)] := hl
  refine lv_iload_n hx hb dX2_setLifetime_0 rfl (lv_at hl 1 rfl) ?_
  refine lv_iconst (v := nI 0) hx hb dX2_setLifetime_1 (by decide +kernel) ?_
  refine lv_iconst (v := nI 5) hx hb dX2_setLifetime_2 (by decide +kernel) ?_
  refine nx_callv (vx_runS (As := [.int f, .int (nI 0), .int (nI 5)]) (rest := []) ⟨hx, hb, hml, hown, hts⟩ (c_X2_requireRange l dD cI cR cS lo hfl f (nI 0) (nI 5)) (va_cwS 3 hts gX2_setLifetime_X2_requireRange rfl rfl rfl (by decide +kernel) ⟨Nat.le_of_ble_eq_true rfl, Nat.le_of_ble_eq_true rfl⟩) (ePreS hE va_S.rf trivial) rfl rfl hl.1 rfl (lv_room (Nat.le_of_ble_eq_true rfl)) dX2_setLifetime_3 ⟨Nat.le_of_ble_eq_true rfl, Nat.le_of_ble_eq_true rfl⟩) (fun E ce q9 H1 hX9 hz9 hk9 hc9 hv9 hf9 => vx_out (fun x hx => (hnt x hx).elim) hlocks hc9 hv9 hf9 (fun t9 ht9 _ => ⟨⟨hX9.1, fun h => hX9.2 (h.1)⟩, by rw [ht9]; exact hz9, fun q hq _ => by rw [ht9]; exact hk9 q hq⟩) (fun z hz => absurd hz List.not_mem_nil) (by decide) (by decide)) (fun hr_3 => ?_)
  refine lv_iload_n hx hb dX2_setLifetime_6 rfl (lv_at hl 2 rfl) ?_
  refine lv_iconst (v := nI 0) hx hb dX2_setLifetime_7 (by decide +kernel) ?_
  refine lv_sipush (v := nI 10000) hx hb dX2_setLifetime_8 (by decide +kernel) ?_
  refine nx_callv (vx_runS (As := [.int t, .int (nI 0), .int (nI 10000)]) (rest := []) ⟨hx, hb, hml, hown, hts⟩ (c_X2_requireRange l dD cI cR cS lo hfl t (nI 0) (nI 10000)) (va_cwS 3 hts gX2_setLifetime_X2_requireRange rfl rfl rfl (by decide +kernel) ⟨Nat.le_of_ble_eq_true rfl, Nat.le_of_ble_eq_true rfl⟩) (ePreS hE va_S.rf trivial) rfl rfl hl.1 rfl (lv_room (Nat.le_of_ble_eq_true rfl)) dX2_setLifetime_11 ⟨Nat.le_of_ble_eq_true rfl, Nat.le_of_ble_eq_true rfl⟩) (fun E ce q9 H1 hX9 hz9 hk9 hc9 hv9 hf9 => vx_out (fun x hx => (hnt x hx).elim) hlocks hc9 hv9 hf9 (fun t9 ht9 _ => ⟨⟨hX9.1, fun h => hX9.2 (h.2)⟩, by rw [ht9]; exact hz9, fun q hq _ => by rw [ht9]; exact hk9 q hq⟩) (fun z hz => absurd hz List.not_mem_nil) (by decide) (by decide)) (fun hr_11 => ?_)
  obtain ⟨fn, hfn1, hfn2, rfl⟩ := rg_of (by decide) (by decide) (hr_3)
  obtain ⟨tn, htn1, htn2, rfl⟩ := rg_of (by decide) (by decide) (hr_11)
  refine lv_aload_n hx hb dX2_setLifetime_14 rfl (lv_at hl 0 rfl) ?_
  refine va_get (D := dD) (ci := 2) (v := .ref (b 0)) (C := RX2) (T := TX2) (N := 9) hx hb hts hinX2 hown hK hP 0 rfl rfl 1 (by decide) (hts (.fieldLink RX2 9 "FeatureStore" "lifetimes" "[I") (by decide +kernel)) (fun _ h9 => h9) rfl dX2_setLifetime_15 ?_
  refine lv_iload_n hx hb dX2_setLifetime_18 rfl (lv_at hl 1 rfl) ?_
  refine nv_iald (q0 := 1) (t0 := 0) (s_lt σ) hx hb hK hP rfl rfl (by omega) (by decide) dX2_setLifetime_19 ?_
  refine lv_istore_n (lv' := [(3, .int (nI (s_lt σ fn))), (0, .ref x0), (1, .int (nI fn)), (2, .int (nI tn))]) hx hb dX2_setLifetime_20 rfl hl (by decide) rfl (fun ls hl => ?_)
  refine lv_aload_n hx hb dX2_setLifetime_21 rfl (lv_at hl 1 rfl) ?_
  refine va_get (D := dD) (ci := 2) (v := .ref (b 0)) (C := RX2) (T := TX2) (N := 9) hx hb hts hinX2 hown hK hP 0 rfl rfl 1 (by decide) (hts (.fieldLink RX2 9 "FeatureStore" "lifetimes" "[I") (by decide +kernel)) (fun _ h9 => h9) rfl dX2_setLifetime_22 ?_
  refine lv_iload_n hx hb dX2_setLifetime_25 rfl (lv_at hl 2 rfl) ?_
  refine lv_iload_n hx hb dX2_setLifetime_26 rfl (lv_at hl 3 rfl) ?_
  refine nv_iast (q0 := 1) (t0 := 0) (s_lt σ) hx hb hK hP hD hS rfl rfl (by omega) (by decide) dX2_setLifetime_27 (fun H locs hP hD hS => ?_)
  have hP : va_P dD vwCl ((x0, .inr (2, [.int (nI (s_now σ)), .ref (b 0), .ref (b 1), .int (nI (s_n σ)), .ref (b 2), .ref (b 3), .int (nI (s_tk σ)), .ref (b 4), .int (nI (s_k σ))])) :: (b 0, .inl (cI, 6, .inl (fun j => nI ((uN (s_lt σ) fn tn) j)))) :: (b 1, .inl (cR, 200, .inr (.inr (.inr (.inr (fun j => if j < s_n σ then some (ra j) else none)))))) :: (b 2, .inl (cR, 60, .inr (.inr (.inr (.inr (fun j => rfN ra (hd j))))))) :: (b 3, .inl (cR, 60, .inr (.inr (.inr (.inr (fun j => rfN ra (s_cp σ j))))))) :: (b 4, .inl (cS, 200, .inr (.inr (.inr (.inr (fun j => if j < s_k σ then some (sb j) else none)))))) :: (poolE ra sb ol σ (s_n σ) (s_k σ))) H := hP
  have hD : va_D A ((x0, .inr (2, [.int (nI (s_now σ)), .ref (b 0), .ref (b 1), .int (nI (s_n σ)), .ref (b 2), .ref (b 3), .int (nI (s_tk σ)), .ref (b 4), .int (nI (s_k σ))])) :: (b 0, .inl (cI, 6, .inl (fun j => nI ((uN (s_lt σ) fn tn) j)))) :: (b 1, .inl (cR, 200, .inr (.inr (.inr (.inr (fun j => if j < s_n σ then some (ra j) else none)))))) :: (b 2, .inl (cR, 60, .inr (.inr (.inr (.inr (fun j => rfN ra (hd j))))))) :: (b 3, .inl (cR, 60, .inr (.inr (.inr (.inr (fun j => rfN ra (s_cp σ j))))))) :: (b 4, .inl (cS, 200, .inr (.inr (.inr (.inr (fun j => if j < s_k σ then some (sb j) else none)))))) :: (poolE ra sb ol σ (s_n σ) (s_k σ))) := hD
  refine lv_iload_n hx hb dX2_setLifetime_28 rfl (lv_at hl 0 rfl) ?_
  exact vx_ret (W.widen (k := 2) (n := 12) (by decide) (by decide) (W.iret (v := nI (s_lt σ fn)) hx hb hr (fun u9 hu9 hW => ⟨⟨nI (s_lt σ fn), g_setL σ fn tn, rfl, ⟨⟨hr_3, hr_11⟩, by rw [cl_nI (by omega), cl_nI (by omega)], by rw [cl_nI (by omega)]⟩, by have h9 := hP; rw [← hu9] at h9; exact h9⟩, hS.F hu9⟩) hS.2.2 dX2_setLifetime_29))

theorem q_in_0 (σ : St) (c k : Nat) (h : ¬ k = 9) : q_in σ c k = σ k := by
  unfold q_in
  split
  · show (if k = 9 then _ else _) = _
    rw [if_neg h]
  · rfl
theorem q_in_tk (σ : St) (c : Nat) : s_tk (q_in σ c) = s_tk σ := congrFun (q_in_0 σ c 2 (by decide)) 0
theorem q_in_n (σ : St) (c : Nat) : s_n (q_in σ c) = s_n σ := congrFun (q_in_0 σ c 1 (by decide)) 0
theorem q_in_k (σ : St) (c : Nat) : s_k (q_in σ c) = s_k σ := congrFun (q_in_0 σ c 3 (by decide)) 0

set_option maxHeartbeats 4000000 in
set_option maxRecDepth 100000 in
theorem c_X2_take (l : Launch) (dD : va_G) (cI cR cS : ClassId) (lo : Nat) (hfl : l.stackTraces = false) (sz : Nat) (hlo : lo ≤ sz) (x0 : Nat) (b ra sb hd ol : Nat → Nat) (σ : St) (hI : sI σ) (x : Int32) : vx_Met l yX2_take wsX2_take ({ frames := 7, cells := 1, slots := 6, locals := 104 }) (ePc dD cI cR cS lo [.ref x0, .int x] (fun H => H.size = sz ∧ va_P dD vwCl (xW cI cR cS x0 b ra sb hd ol σ) H ∧ va_D (fun q => lo ≤ q) (xW cI cR cS x0 b ra sb hd ol σ))) (va_Qi (fun (r : Int32) (u : St) => (rg x 1 200) ∧ u = q_take σ (g_m σ (cl x)) ∧ r = nI (g_m σ (cl x))) (fun u t => va_P dD vwCl (xW cI cR cS x0 b ra sb hd ol u) t.heap) (va_A (xW cI cR cS x0 b ra sb hd ol σ) sz)) (eX (fun E => E = nIAE ∧ ¬ rg x 1 200)) 1 6 (va_A (xW cI cR cS x0 b ra sb hd ol σ) sz) := by
  refine vx_ofW (cc := cX2_take) (maxL := 4) (ret := (some .int)) (by decide) rfl ?_
  intro p e_ s m args below meth c s₁ B hml hnt hv
  obtain ⟨rfl, hE, hsz, hP, hD0⟩ := hv
  have hx := B.exec
  have hb := B.bytes
  have hr := B.returns
  have hts := atoms_spec (ws := wsX2_take) B.pre
  have hown : s.vm.findClass RX2 = some m.cls := findClass_of_methodNamed B.named
  have hlocks := B.notSynchronized
  have hK := hE.1.1
  have hinX2 : ∀ w ∈ u_ws RX2 TX2 9, w ∈ wsX2_take := by decide +kernel
  subst hsz
  have hD := hD0.self (sz := s.heap.size)
  have hAlo : ∀ q, va_A (xW cI cR cS x0 b ra sb hd ol σ) s.heap.size q → lo ≤ q := eA_lo hD0 hlo
  generalize hAe : va_A (xW cI cR cS x0 b ra sb hd ol σ) s.heap.size = A at hD hAlo ⊢
  have hA : ∀ q : Nat, s.heap.size ≤ q → A q := fun q h => by rw [← hAe]; exact Or.inr h
  have hS : va_S A s.heap s.heap [] := va_S.rf
  have hP : va_P dD vwCl (xW cI cR cS x0 b ra sb hd ol σ) s.heap := hP
  obtain ⟨i_now, i_n, i_tk, i_k, i_lt, i_row, i_cp, i_srv⟩ := id hI
  have hl := lv_entry ([.ref x0, .int x]) (n := 4) (Nat.le_of_ble_eq_true rfl)
  rw [lg_entry_eq]
  generalize (lg_sl ([.ref x0, .int x]) ++ List.replicate (4 - (lg_sl ([.ref x0, .int x])).length) Slot.unset).toArray = ls at hl ⊢
  have hl : lv_has ls 4 [(0, .ref x0), (1, .int x)] := hl
  refine lv_iload_n hx hb dX2_take_0 rfl (lv_at hl 1 rfl) ?_
  refine lv_iconst (v := nI 1) hx hb dX2_take_1 (by decide +kernel) ?_
  refine lv_sipush (v := nI 200) hx hb dX2_take_2 (by decide +kernel) ?_
  refine nx_callv (vx_runS (As := [.int x, .int (nI 1), .int (nI 200)]) (rest := []) ⟨hx, hb, hml, hown, hts⟩ (c_X2_requireRange l dD cI cR cS lo hfl x (nI 1) (nI 200)) (va_cwS 3 hts gX2_take_X2_requireRange rfl rfl rfl (by decide +kernel) ⟨Nat.le_of_ble_eq_true rfl, Nat.le_of_ble_eq_true rfl⟩) (ePreS hE va_S.rf trivial) rfl rfl hl.1 rfl (lv_room (Nat.le_of_ble_eq_true rfl)) dX2_take_5 ⟨Nat.le_of_ble_eq_true rfl, Nat.le_of_ble_eq_true rfl⟩) (fun E ce q9 H1 hX9 hz9 hk9 hc9 hv9 hf9 => vx_out (fun x hx => (hnt x hx).elim) hlocks hc9 hv9 hf9 (fun t9 ht9 _ => ⟨hX9, by rw [ht9]; exact hz9, fun q hq _ => by rw [ht9]; exact hk9 q hq⟩) (fun z hz => absurd hz List.not_mem_nil) (by decide) (by decide)) (fun hr_5 => ?_)
  obtain ⟨cn, hcn1, hcn2, rfl⟩ := rg_of (by decide) (by decide) (hr_5)
  refine vx_ret (W.widen (k := 1) (n := 6) (by decide) (by decide) ?_)
  refine lv_iconst (v := nI 0) hx hb dX2_take_8 (by decide +kernel) ?_
  refine lv_istore_n (lv' := [(2, .int (nI 0)), (0, .ref x0), (1, .int (nI cn))]) hx hb dX2_take_9 rfl hl (by decide) rfl (fun ls hl => ?_)
  refine lv_aload_n hx hb dX2_take_10 rfl (lv_at hl 1 rfl) ?_
  refine lv_aload_n hx hb dX2_take_11 rfl (lv_at hl 1 rfl) ?_
  refine va_get (D := dD) (ci := 2) (v := .int (nI (s_tk σ))) (C := RX2) (T := TX2) (N := 9) hx hb hts hinX2 hown hK hP 0 rfl rfl 6 (by decide) (hts (.fieldLink RX2 102 "FeatureStore" "taken" "I") (by decide +kernel)) (fun _ h9 => h9) rfl dX2_take_12 ?_
  refine nx_callRr (va_Run.run (va_runV (As := [.int (nI (s_tk σ))]) (rest := []) ⟨hx, hb, hml, hown, hts⟩ (c_X2_rowOrNull l dD cI cR cS lo x0 b ra sb hd ol σ hI (nI (s_tk σ))) (cwV 1 hts gX2_take_X2_rowOrNull rfl rfl rfl (by decide +kernel) ⟨Nat.le_of_ble_eq_true rfl, Nat.le_of_ble_eq_true rfl⟩) (ePreV hE (hS.mono hAlo) hP (k := 0) rfl rfl hP) rfl rfl hl.1 rfl (lv_room (Nat.le_of_ble_eq_true rfl)) dX2_take_15 ⟨Nat.le_of_ble_eq_true rfl, Nat.le_of_ble_eq_true rfl⟩)) (fun r_15 hr_15 => ?_)
  rcases hr_15 with ⟨hri, rfl⟩ | ⟨hri, rfl⟩
  · rw [cl_nI (n := s_tk σ) (by omega)]
    have hri2 : s_tk σ < s_n σ := (nI_ltI (by omega) (by omega)).mp hri.2
    refine lv_astore_n (lv' := [(3, .ref (ra (s_tk σ))), (2, .int (nI 0)), (0, .ref x0), (1, .int (nI cn))]) hx hb dX2_take_18 rfl hl (by decide) rfl (fun ls hl => ?_)
    have hlp : ∀ (d c_ : Nat) (σ2 : St) (o : Nat), σ2 = q_take σ c_ → sI σ2 → s_tk σ2 = s_tk σ + c_ → s_n σ2 = s_n σ → c_ ≤ cn → s_n σ + 1 ≤ s_tk σ + c_ + d → ((s_tk σ2 < s_n σ2 ∧ o = s_tk σ2 + 1) ∨ (¬ s_tk σ2 < s_n σ2 ∧ o = 0)) → ∀ (H : Heap) (locs : List Loc), va_P dD vwCl (xW cI cR cS x0 b ra sb hd ol σ2) H → va_D A (xW cI cR cS x0 b ra sb hd ol σ2) → va_S A s.heap H locs → ∀ (ls : Array Slot), lv_has ls 4 [(0, .ref x0), (1, .int (nI cn)), (2, .int (nI c_)), (3, va_rf (rfN ra o))] → W p l e_ (headSpec wsX2_take ({ frames := 7, cells := 1, slots := 6, locals := 104 })).room s m (([.ref x0, .int (nI cn)] : List Value).toArray) below meth c H locs 1 6 (MQ below (va_Qi (fun (r : Int32) (u : St) => (rg (nI cn) 1 200) ∧ u = q_take σ (g_m σ (cl (nI cn))) ∧ r = nI (g_m σ (cl (nI cn)))) (fun u t => va_P dD vwCl (xW cI cR cS x0 b ra sb hd ol u) t.heap) A) (([.ref x0, .int (nI cn)] : List Value).toArray) s 1 6 A) (F0 m 19 ls []) := by
      intro d
      induction d with
      | zero =>
        intro c_ σ2 o hq_ hI2 ht_ hn_ hc_ hd_ ho_ H locs hP hD hS ls hl
        exact absurd hI2.2.2.1 (by omega)
      | succ d ih =>
        intro c_ σ2 o hq_ hI2 ht_ hn_ hc_ hd_ ho_ H locs hP hD hS ls hl
        obtain ⟨i_now, i_n, i_tk, i_k, i_lt, i_row, i_cp, i_srv⟩ := id hI2
        rcases ho_ with ⟨hz_t, rfl⟩ | ⟨hz_t, rfl⟩
        · have hl : lv_has ls 4 [(0, .ref x0), (1, .int (nI cn)), (2, .int (nI c_)), (3, .ref (ra (s_tk σ2)))] := hl
          refine lv_iload_n hx hb dX2_take_19 rfl (lv_at hl 2 rfl) ?_
          refine lv_iload_n hx hb dX2_take_20 rfl (lv_at hl 1 rfl) ?_
          refine nv_ge (tgt := 58) hx hb dX2_take_21 (by decide) (by omega) (by omega) (fun c_21 => ?_) (fun c_21 => ?_)
          · refine lv_iload_n hx hb dX2_take_58 rfl (lv_at hl 2 rfl) ?_
            exact W.iret (v := nI c_) hx hb hr (fun u9 hu9 hW => ⟨⟨nI c_, σ2, rfl, ⟨hr_5, by rw [cl_nI (by omega), show g_m σ cn = c_ from by unfold g_m; omega]; exact hq_, by rw [cl_nI (by omega), show g_m σ cn = c_ from by unfold g_m; omega]⟩, by have h9 := hP; rw [← hu9] at h9; exact h9⟩, hS.F hu9⟩) hS.2.2 dX2_take_59
          · refine lv_aload_n hx hb dX2_take_24 rfl (lv_at hl 3 rfl) ?_
            refine lv_ifnull hx hb dX2_take_25 ?_
            refine lv_aload_n hx hb dX2_take_28 rfl (lv_at hl 0 rfl) ?_
            refine lv_aload_n hx hb dX2_take_29 rfl (lv_at hl 3 rfl) ?_
            have hAH : ∀ q : Nat, H.size ≤ q → A q := fun q h => hA q (Nat.le_trans hS.1 h)
            have hFc := fr_free (w2 := []) (by rw [List.append_nil]; exact hD) hAH
            refine va_callv (va_runV (As := [.ref (ra (s_tk σ2))]) (rest := []) ⟨hx, hb, hml, hown, hts⟩ (c_X2_takeIn l dD cI cR cS lo H.size (Nat.le_trans hlo hS.1) x0 b ra sb hd ol σ2 hI2 (s_tk σ2) hz_t) (cwV 1 hts gX2_take_X2_takeIn rfl rfl rfl (by decide +kernel) ⟨Nat.le_of_ble_eq_true rfl, Nat.le_of_ble_eq_true rfl⟩) (ePreV hE (hS.mono hAlo) hP (k := 0) rfl rfl ⟨rfl, hP, vD_mono hD hAlo⟩) rfl rfl hl.1 rfl (lv_room (Nat.le_of_ble_eq_true rfl)) dX2_take_30 ⟨Nat.le_of_ble_eq_true rfl, Nat.le_of_ble_eq_true rfl⟩) hS (fun q _ h => hFc q h) hFc (fun σ3 t_ H1 locs ht_ hvm_ hs3 hB_ hz_ hk_ hS => ?_)
            have hP : va_P dD vwCl (xW cI cR cS x0 b ra sb hd ol σ3) H1 := by rw [← ht_]; exact hB_
            have hD : va_D A (xW cI cR cS x0 b ra sb hd ol σ3) := xD_to hD (by rw [hs3, q_in_n]) (by rw [hs3, q_in_k])
            refine lv_aload_n hx hb dX2_take_33 rfl (lv_at hl 0 rfl) ?_
            refine lv_dup hx hb dX2_take_34 rfl ?_
            refine va_get (D := dD) (ci := 2) (v := .int (nI (s_tk σ3))) (C := RX2) (T := TX2) (N := 9) hx hb hts hinX2 hown hK hP 0 rfl rfl 6 (by decide) (hts (.fieldLink RX2 102 "FeatureStore" "taken" "I") (by decide +kernel)) (fun _ h9 => h9) rfl dX2_take_35 ?_
            refine lv_iconst (v := nI 1) hx hb dX2_take_38 (by decide +kernel) ?_
            refine nv_iadd hx hb dX2_take_39 ?_
            refine va_put (D := dD) (ci := 2) (v := .int (nI ((s_tk σ3) + 1))) (ty := .int) (C := RX2) (T := TX2) (N := 9) hx hb hts hinX2 tyX2 tyX2_ok nmX2 hown hK hP hD hS 0 rfl rfl 6 (by decide) (hts (.fieldLink RX2 102 "FeatureStore" "taken" "I") (by decide +kernel)) (fun _ h9 => h9) rfl (by decide +kernel) rfl rfl (Nat.le_of_ble_eq_true rfl) dX2_take_40 (fun H locs hP hD hS => ?_)
            have hP : va_P dD vwCl ((x0, .inr (2, [.int (nI (s_now σ3)), .ref (b 0), .ref (b 1), .int (nI (s_n σ3)), .ref (b 2), .ref (b 3), .int (nI ((s_tk σ3) + 1)), .ref (b 4), .int (nI (s_k σ3))])) :: (b 0, .inl (cI, 6, .inl (fun j => nI (s_lt σ3 j)))) :: (b 1, .inl (cR, 200, .inr (.inr (.inr (.inr (fun j => if j < s_n σ3 then some (ra j) else none)))))) :: (b 2, .inl (cR, 60, .inr (.inr (.inr (.inr (fun j => rfN ra (hd j))))))) :: (b 3, .inl (cR, 60, .inr (.inr (.inr (.inr (fun j => rfN ra (s_cp σ3 j))))))) :: (b 4, .inl (cS, 200, .inr (.inr (.inr (.inr (fun j => if j < s_k σ3 then some (sb j) else none)))))) :: (poolE ra sb ol σ3 (s_n σ3) (s_k σ3))) H := hP
            have hD : va_D A ((x0, .inr (2, [.int (nI (s_now σ3)), .ref (b 0), .ref (b 1), .int (nI (s_n σ3)), .ref (b 2), .ref (b 3), .int (nI ((s_tk σ3) + 1)), .ref (b 4), .int (nI (s_k σ3))])) :: (b 0, .inl (cI, 6, .inl (fun j => nI (s_lt σ3 j)))) :: (b 1, .inl (cR, 200, .inr (.inr (.inr (.inr (fun j => if j < s_n σ3 then some (ra j) else none)))))) :: (b 2, .inl (cR, 60, .inr (.inr (.inr (.inr (fun j => rfN ra (hd j))))))) :: (b 3, .inl (cR, 60, .inr (.inr (.inr (.inr (fun j => rfN ra (s_cp σ3 j))))))) :: (b 4, .inl (cS, 200, .inr (.inr (.inr (.inr (fun j => if j < s_k σ3 then some (sb j) else none)))))) :: (poolE ra sb ol σ3 (s_n σ3) (s_k σ3))) := hD
            refine lv_iinc (v := nI (c_ + 1)) (lv' := [(2, .int (nI (c_ + 1))), (0, .ref x0), (1, .int (nI cn)), (3, .ref (ra (s_tk σ2)))]) hx hb dX2_take_43 hl (k := 2) rfl (nv_inc _ 1) (by decide) rfl (fun ls hl => ?_)
            have e1 : q_take1 σ2 = setS σ3 2 (fun _ => s_tk σ3 + 1) := by rw [show s_tk σ3 = s_tk σ2 from by rw [hs3, q_in_tk], hs3]; rfl
            obtain ⟨σ4, hs4⟩ : ∃ z, z = q_take1 σ2 := ⟨_, rfl⟩
            have hP : va_P dD vwCl (xW cI cR cS x0 b ra sb hd ol σ4) H := by rw [hs4, e1]; exact hP
            have hD : va_D A (xW cI cR cS x0 b ra sb hd ol σ4) := by rw [hs4, e1]; exact hD
            have hI4 : sI σ4 := by rw [hs4]; exact sI_take1 hI2 hz_t
            have hz_4 := hI4.2.1
            have hz_5 := hI4.2.2.1
            refine lv_aload_n hx hb dX2_take_46 rfl (lv_at hl 1 rfl) ?_
            refine lv_aload_n hx hb dX2_take_47 rfl (lv_at hl 1 rfl) ?_
            refine va_get (D := dD) (ci := 2) (v := .int (nI (s_tk σ4))) (C := RX2) (T := TX2) (N := 9) hx hb hts hinX2 hown hK hP 0 rfl rfl 6 (by decide) (hts (.fieldLink RX2 102 "FeatureStore" "taken" "I") (by decide +kernel)) (fun _ h9 => h9) rfl dX2_take_48 ?_
            refine nx_callRr (va_Run.run (va_runV (As := [.int (nI (s_tk σ4))]) (rest := []) ⟨hx, hb, hml, hown, hts⟩ (c_X2_rowOrNull l dD cI cR cS lo x0 b ra sb hd ol σ4 hI4 (nI (s_tk σ4))) (cwV 1 hts gX2_take_X2_rowOrNull rfl rfl rfl (by decide +kernel) ⟨Nat.le_of_ble_eq_true rfl, Nat.le_of_ble_eq_true rfl⟩) (ePreV hE (hS.mono hAlo) hP (k := 0) rfl rfl hP) rfl rfl hl.1 rfl (lv_room (Nat.le_of_ble_eq_true rfl)) dX2_take_51 ⟨Nat.le_of_ble_eq_true rfl, Nat.le_of_ble_eq_true rfl⟩)) (fun r_51 hr_51 => ?_)
            rcases hr_51 with ⟨hri, rfl⟩ | ⟨hri, rfl⟩
            · rw [cl_nI (n := s_tk σ4) (by omega)]
              have hri2 : s_tk σ4 < s_n σ4 := (nI_ltI (by omega) (by omega)).mp hri.2
              refine lv_astore_n (lv' := [(3, .ref (ra (s_tk σ4))), (2, .int (nI (c_ + 1))), (0, .ref x0), (1, .int (nI cn))]) hx hb dX2_take_54 rfl hl (by decide) rfl (fun ls hl => ?_)
              refine lv_goto (tgt := 19) hx hb dX2_take_55 (by decide) ?_
              exact ih (c_ + 1) σ4 (s_tk σ4 + 1) (by rw [hs4, hq_]; rfl) hI4 (by rw [hs4, tk1_2]; omega) (by rw [hs4, tk1_1]; omega) (by omega) (by omega) (Or.inl ⟨hri2, rfl⟩) H locs hP hD hS ls (lv_sub hl [2, 3, 1, 0] rfl)
            · have hri2 : ¬ s_tk σ4 < s_n σ4 := fun z => hri ⟨(nI_leI (by decide) (by omega)).mpr (Nat.zero_le _), (nI_ltI (by omega) (by omega)).mpr z⟩
              refine lv_astore_nN (lv' := [(3, .null), (2, .int (nI (c_ + 1))), (0, .ref x0), (1, .int (nI cn))]) hx hb dX2_take_54 rfl hl (by decide) rfl (fun ls hl => ?_)
              refine lv_goto (tgt := 19) hx hb dX2_take_55 (by decide) ?_
              exact ih (c_ + 1) σ4 0 (by rw [hs4, hq_]; rfl) hI4 (by rw [hs4, tk1_2]; omega) (by rw [hs4, tk1_1]; omega) (by omega) (by omega) (Or.inr ⟨hri2, rfl⟩) H locs hP hD hS ls (lv_sub hl [2, 3, 1, 0] rfl)
        · have hl : lv_has ls 4 [(0, .ref x0), (1, .int (nI cn)), (2, .int (nI c_)), (3, .null)] := hl
          refine lv_iload_n hx hb dX2_take_19 rfl (lv_at hl 2 rfl) ?_
          refine lv_iload_n hx hb dX2_take_20 rfl (lv_at hl 1 rfl) ?_
          refine nv_ge (tgt := 58) hx hb dX2_take_21 (by decide) (by omega) (by omega) (fun c_21 => ?_) (fun c_21 => ?_)
          · refine lv_iload_n hx hb dX2_take_58 rfl (lv_at hl 2 rfl) ?_
            exact W.iret (v := nI c_) hx hb hr (fun u9 hu9 hW => ⟨⟨nI c_, σ2, rfl, ⟨hr_5, by rw [cl_nI (by omega), show g_m σ cn = c_ from by unfold g_m; omega]; exact hq_, by rw [cl_nI (by omega), show g_m σ cn = c_ from by unfold g_m; omega]⟩, by have h9 := hP; rw [← hu9] at h9; exact h9⟩, hS.F hu9⟩) hS.2.2 dX2_take_59
          · refine lv_aload_nN hx hb dX2_take_24 rfl (lv_at hl 3 rfl) ?_
            refine lv_ifnullN (tgt := 58) hx hb dX2_take_25 (by decide) ?_
            refine lv_iload_n hx hb dX2_take_58 rfl (lv_at hl 2 rfl) ?_
            exact W.iret (v := nI c_) hx hb hr (fun u9 hu9 hW => ⟨⟨nI c_, σ2, rfl, ⟨hr_5, by rw [cl_nI (by omega), show g_m σ cn = c_ from by unfold g_m; omega]; exact hq_, by rw [cl_nI (by omega), show g_m σ cn = c_ from by unfold g_m; omega]⟩, by have h9 := hP; rw [← hu9] at h9; exact h9⟩, hS.F hu9⟩) hS.2.2 dX2_take_59
    exact hlp (s_n σ + 1) 0 σ (s_tk σ + 1) rfl hI rfl rfl (Nat.zero_le _) (by omega) (Or.inl ⟨hri2, rfl⟩) s.heap [] hP hD hS ls (lv_sub hl [2, 3, 1, 0] rfl)
  · have hri2 : ¬ s_tk σ < s_n σ := fun z => hri ⟨(nI_leI (by decide) (by omega)).mpr (Nat.zero_le _), (nI_ltI (by omega) (by omega)).mpr z⟩
    refine lv_astore_nN (lv' := [(3, .null), (2, .int (nI 0)), (0, .ref x0), (1, .int (nI cn))]) hx hb dX2_take_18 rfl hl (by decide) rfl (fun ls hl => ?_)
    have hlp : ∀ (d c_ : Nat) (σ2 : St) (o : Nat), σ2 = q_take σ c_ → sI σ2 → s_tk σ2 = s_tk σ + c_ → s_n σ2 = s_n σ → c_ ≤ cn → s_n σ + 1 ≤ s_tk σ + c_ + d → ((s_tk σ2 < s_n σ2 ∧ o = s_tk σ2 + 1) ∨ (¬ s_tk σ2 < s_n σ2 ∧ o = 0)) → ∀ (H : Heap) (locs : List Loc), va_P dD vwCl (xW cI cR cS x0 b ra sb hd ol σ2) H → va_D A (xW cI cR cS x0 b ra sb hd ol σ2) → va_S A s.heap H locs → ∀ (ls : Array Slot), lv_has ls 4 [(0, .ref x0), (1, .int (nI cn)), (2, .int (nI c_)), (3, va_rf (rfN ra o))] → W p l e_ (headSpec wsX2_take ({ frames := 7, cells := 1, slots := 6, locals := 104 })).room s m (([.ref x0, .int (nI cn)] : List Value).toArray) below meth c H locs 1 6 (MQ below (va_Qi (fun (r : Int32) (u : St) => (rg (nI cn) 1 200) ∧ u = q_take σ (g_m σ (cl (nI cn))) ∧ r = nI (g_m σ (cl (nI cn)))) (fun u t => va_P dD vwCl (xW cI cR cS x0 b ra sb hd ol u) t.heap) A) (([.ref x0, .int (nI cn)] : List Value).toArray) s 1 6 A) (F0 m 19 ls []) := by
      intro d
      induction d with
      | zero =>
        intro c_ σ2 o hq_ hI2 ht_ hn_ hc_ hd_ ho_ H locs hP hD hS ls hl
        exact absurd hI2.2.2.1 (by omega)
      | succ d ih =>
        intro c_ σ2 o hq_ hI2 ht_ hn_ hc_ hd_ ho_ H locs hP hD hS ls hl
        obtain ⟨i_now, i_n, i_tk, i_k, i_lt, i_row, i_cp, i_srv⟩ := id hI2
        rcases ho_ with ⟨hz_t, rfl⟩ | ⟨hz_t, rfl⟩
        · have hl : lv_has ls 4 [(0, .ref x0), (1, .int (nI cn)), (2, .int (nI c_)), (3, .ref (ra (s_tk σ2)))] := hl
          refine lv_iload_n hx hb dX2_take_19 rfl (lv_at hl 2 rfl) ?_
          refine lv_iload_n hx hb dX2_take_20 rfl (lv_at hl 1 rfl) ?_
          refine nv_ge (tgt := 58) hx hb dX2_take_21 (by decide) (by omega) (by omega) (fun c_21 => ?_) (fun c_21 => ?_)
          · refine lv_iload_n hx hb dX2_take_58 rfl (lv_at hl 2 rfl) ?_
            exact W.iret (v := nI c_) hx hb hr (fun u9 hu9 hW => ⟨⟨nI c_, σ2, rfl, ⟨hr_5, by rw [cl_nI (by omega), show g_m σ cn = c_ from by unfold g_m; omega]; exact hq_, by rw [cl_nI (by omega), show g_m σ cn = c_ from by unfold g_m; omega]⟩, by have h9 := hP; rw [← hu9] at h9; exact h9⟩, hS.F hu9⟩) hS.2.2 dX2_take_59
          · refine lv_aload_n hx hb dX2_take_24 rfl (lv_at hl 3 rfl) ?_
            refine lv_ifnull hx hb dX2_take_25 ?_
            refine lv_aload_n hx hb dX2_take_28 rfl (lv_at hl 0 rfl) ?_
            refine lv_aload_n hx hb dX2_take_29 rfl (lv_at hl 3 rfl) ?_
            have hAH : ∀ q : Nat, H.size ≤ q → A q := fun q h => hA q (Nat.le_trans hS.1 h)
            have hFc := fr_free (w2 := []) (by rw [List.append_nil]; exact hD) hAH
            refine va_callv (va_runV (As := [.ref (ra (s_tk σ2))]) (rest := []) ⟨hx, hb, hml, hown, hts⟩ (c_X2_takeIn l dD cI cR cS lo H.size (Nat.le_trans hlo hS.1) x0 b ra sb hd ol σ2 hI2 (s_tk σ2) hz_t) (cwV 1 hts gX2_take_X2_takeIn rfl rfl rfl (by decide +kernel) ⟨Nat.le_of_ble_eq_true rfl, Nat.le_of_ble_eq_true rfl⟩) (ePreV hE (hS.mono hAlo) hP (k := 0) rfl rfl ⟨rfl, hP, vD_mono hD hAlo⟩) rfl rfl hl.1 rfl (lv_room (Nat.le_of_ble_eq_true rfl)) dX2_take_30 ⟨Nat.le_of_ble_eq_true rfl, Nat.le_of_ble_eq_true rfl⟩) hS (fun q _ h => hFc q h) hFc (fun σ3 t_ H1 locs ht_ hvm_ hs3 hB_ hz_ hk_ hS => ?_)
            have hP : va_P dD vwCl (xW cI cR cS x0 b ra sb hd ol σ3) H1 := by rw [← ht_]; exact hB_
            have hD : va_D A (xW cI cR cS x0 b ra sb hd ol σ3) := xD_to hD (by rw [hs3, q_in_n]) (by rw [hs3, q_in_k])
            refine lv_aload_n hx hb dX2_take_33 rfl (lv_at hl 0 rfl) ?_
            refine lv_dup hx hb dX2_take_34 rfl ?_
            refine va_get (D := dD) (ci := 2) (v := .int (nI (s_tk σ3))) (C := RX2) (T := TX2) (N := 9) hx hb hts hinX2 hown hK hP 0 rfl rfl 6 (by decide) (hts (.fieldLink RX2 102 "FeatureStore" "taken" "I") (by decide +kernel)) (fun _ h9 => h9) rfl dX2_take_35 ?_
            refine lv_iconst (v := nI 1) hx hb dX2_take_38 (by decide +kernel) ?_
            refine nv_iadd hx hb dX2_take_39 ?_
            refine va_put (D := dD) (ci := 2) (v := .int (nI ((s_tk σ3) + 1))) (ty := .int) (C := RX2) (T := TX2) (N := 9) hx hb hts hinX2 tyX2 tyX2_ok nmX2 hown hK hP hD hS 0 rfl rfl 6 (by decide) (hts (.fieldLink RX2 102 "FeatureStore" "taken" "I") (by decide +kernel)) (fun _ h9 => h9) rfl (by decide +kernel) rfl rfl (Nat.le_of_ble_eq_true rfl) dX2_take_40 (fun H locs hP hD hS => ?_)
            have hP : va_P dD vwCl ((x0, .inr (2, [.int (nI (s_now σ3)), .ref (b 0), .ref (b 1), .int (nI (s_n σ3)), .ref (b 2), .ref (b 3), .int (nI ((s_tk σ3) + 1)), .ref (b 4), .int (nI (s_k σ3))])) :: (b 0, .inl (cI, 6, .inl (fun j => nI (s_lt σ3 j)))) :: (b 1, .inl (cR, 200, .inr (.inr (.inr (.inr (fun j => if j < s_n σ3 then some (ra j) else none)))))) :: (b 2, .inl (cR, 60, .inr (.inr (.inr (.inr (fun j => rfN ra (hd j))))))) :: (b 3, .inl (cR, 60, .inr (.inr (.inr (.inr (fun j => rfN ra (s_cp σ3 j))))))) :: (b 4, .inl (cS, 200, .inr (.inr (.inr (.inr (fun j => if j < s_k σ3 then some (sb j) else none)))))) :: (poolE ra sb ol σ3 (s_n σ3) (s_k σ3))) H := hP
            have hD : va_D A ((x0, .inr (2, [.int (nI (s_now σ3)), .ref (b 0), .ref (b 1), .int (nI (s_n σ3)), .ref (b 2), .ref (b 3), .int (nI ((s_tk σ3) + 1)), .ref (b 4), .int (nI (s_k σ3))])) :: (b 0, .inl (cI, 6, .inl (fun j => nI (s_lt σ3 j)))) :: (b 1, .inl (cR, 200, .inr (.inr (.inr (.inr (fun j => if j < s_n σ3 then some (ra j) else none)))))) :: (b 2, .inl (cR, 60, .inr (.inr (.inr (.inr (fun j => rfN ra (hd j))))))) :: (b 3, .inl (cR, 60, .inr (.inr (.inr (.inr (fun j => rfN ra (s_cp σ3 j))))))) :: (b 4, .inl (cS, 200, .inr (.inr (.inr (.inr (fun j => if j < s_k σ3 then some (sb j) else none)))))) :: (poolE ra sb ol σ3 (s_n σ3) (s_k σ3))) := hD
            refine lv_iinc (v := nI (c_ + 1)) (lv' := [(2, .int (nI (c_ + 1))), (0, .ref x0), (1, .int (nI cn)), (3, .ref (ra (s_tk σ2)))]) hx hb dX2_take_43 hl (k := 2) rfl (nv_inc _ 1) (by decide) rfl (fun ls hl => ?_)
            have e1 : q_take1 σ2 = setS σ3 2 (fun _ => s_tk σ3 + 1) := by rw [show s_tk σ3 = s_tk σ2 from by rw [hs3, q_in_tk], hs3]; rfl
            obtain ⟨σ4, hs4⟩ : ∃ z, z = q_take1 σ2 := ⟨_, rfl⟩
            have hP : va_P dD vwCl (xW cI cR cS x0 b ra sb hd ol σ4) H := by rw [hs4, e1]; exact hP
            have hD : va_D A (xW cI cR cS x0 b ra sb hd ol σ4) := by rw [hs4, e1]; exact hD
            have hI4 : sI σ4 := by rw [hs4]; exact sI_take1 hI2 hz_t
            have hz_4 := hI4.2.1
            have hz_5 := hI4.2.2.1
            refine lv_aload_n hx hb dX2_take_46 rfl (lv_at hl 1 rfl) ?_
            refine lv_aload_n hx hb dX2_take_47 rfl (lv_at hl 1 rfl) ?_
            refine va_get (D := dD) (ci := 2) (v := .int (nI (s_tk σ4))) (C := RX2) (T := TX2) (N := 9) hx hb hts hinX2 hown hK hP 0 rfl rfl 6 (by decide) (hts (.fieldLink RX2 102 "FeatureStore" "taken" "I") (by decide +kernel)) (fun _ h9 => h9) rfl dX2_take_48 ?_
            refine nx_callRr (va_Run.run (va_runV (As := [.int (nI (s_tk σ4))]) (rest := []) ⟨hx, hb, hml, hown, hts⟩ (c_X2_rowOrNull l dD cI cR cS lo x0 b ra sb hd ol σ4 hI4 (nI (s_tk σ4))) (cwV 1 hts gX2_take_X2_rowOrNull rfl rfl rfl (by decide +kernel) ⟨Nat.le_of_ble_eq_true rfl, Nat.le_of_ble_eq_true rfl⟩) (ePreV hE (hS.mono hAlo) hP (k := 0) rfl rfl hP) rfl rfl hl.1 rfl (lv_room (Nat.le_of_ble_eq_true rfl)) dX2_take_51 ⟨Nat.le_of_ble_eq_true rfl, Nat.le_of_ble_eq_true rfl⟩)) (fun r_51 hr_51 => ?_)
            rcases hr_51 with ⟨hri, rfl⟩ | ⟨hri, rfl⟩
            · rw [cl_nI (n := s_tk σ4) (by omega)]
              have hri2 : s_tk σ4 < s_n σ4 := (nI_ltI (by omega) (by omega)).mp hri.2
              refine lv_astore_n (lv' := [(3, .ref (ra (s_tk σ4))), (2, .int (nI (c_ + 1))), (0, .ref x0), (1, .int (nI cn))]) hx hb dX2_take_54 rfl hl (by decide) rfl (fun ls hl => ?_)
              refine lv_goto (tgt := 19) hx hb dX2_take_55 (by decide) ?_
              exact ih (c_ + 1) σ4 (s_tk σ4 + 1) (by rw [hs4, hq_]; rfl) hI4 (by rw [hs4, tk1_2]; omega) (by rw [hs4, tk1_1]; omega) (by omega) (by omega) (Or.inl ⟨hri2, rfl⟩) H locs hP hD hS ls (lv_sub hl [2, 3, 1, 0] rfl)
            · have hri2 : ¬ s_tk σ4 < s_n σ4 := fun z => hri ⟨(nI_leI (by decide) (by omega)).mpr (Nat.zero_le _), (nI_ltI (by omega) (by omega)).mpr z⟩
              refine lv_astore_nN (lv' := [(3, .null), (2, .int (nI (c_ + 1))), (0, .ref x0), (1, .int (nI cn))]) hx hb dX2_take_54 rfl hl (by decide) rfl (fun ls hl => ?_)
              refine lv_goto (tgt := 19) hx hb dX2_take_55 (by decide) ?_
              exact ih (c_ + 1) σ4 0 (by rw [hs4, hq_]; rfl) hI4 (by rw [hs4, tk1_2]; omega) (by rw [hs4, tk1_1]; omega) (by omega) (by omega) (Or.inr ⟨hri2, rfl⟩) H locs hP hD hS ls (lv_sub hl [2, 3, 1, 0] rfl)
        · have hl : lv_has ls 4 [(0, .ref x0), (1, .int (nI cn)), (2, .int (nI c_)), (3, .null)] := hl
          refine lv_iload_n hx hb dX2_take_19 rfl (lv_at hl 2 rfl) ?_
          refine lv_iload_n hx hb dX2_take_20 rfl (lv_at hl 1 rfl) ?_
          refine nv_ge (tgt := 58) hx hb dX2_take_21 (by decide) (by omega) (by omega) (fun c_21 => ?_) (fun c_21 => ?_)
          · refine lv_iload_n hx hb dX2_take_58 rfl (lv_at hl 2 rfl) ?_
            exact W.iret (v := nI c_) hx hb hr (fun u9 hu9 hW => ⟨⟨nI c_, σ2, rfl, ⟨hr_5, by rw [cl_nI (by omega), show g_m σ cn = c_ from by unfold g_m; omega]; exact hq_, by rw [cl_nI (by omega), show g_m σ cn = c_ from by unfold g_m; omega]⟩, by have h9 := hP; rw [← hu9] at h9; exact h9⟩, hS.F hu9⟩) hS.2.2 dX2_take_59
          · refine lv_aload_nN hx hb dX2_take_24 rfl (lv_at hl 3 rfl) ?_
            refine lv_ifnullN (tgt := 58) hx hb dX2_take_25 (by decide) ?_
            refine lv_iload_n hx hb dX2_take_58 rfl (lv_at hl 2 rfl) ?_
            exact W.iret (v := nI c_) hx hb hr (fun u9 hu9 hW => ⟨⟨nI c_, σ2, rfl, ⟨hr_5, by rw [cl_nI (by omega), show g_m σ cn = c_ from by unfold g_m; omega]; exact hq_, by rw [cl_nI (by omega), show g_m σ cn = c_ from by unfold g_m; omega]⟩, by have h9 := hP; rw [← hu9] at h9; exact h9⟩, hS.F hu9⟩) hS.2.2 dX2_take_59
    exact hlp (s_n σ + 1) 0 σ 0 rfl hI rfl rfl (Nat.zero_le _) (by omega) (Or.inr ⟨hri2, rfl⟩) s.heap [] hP hD hS ls (lv_sub hl [2, 3, 1, 0] rfl)
end
section
/-! a new row: the links behind its insertion, the world with one row, one serving more -/
theorem seg_congr {ol ol' : Nat → Nat} : ∀ {l : List Nat} {o : Nat}, (∀ y ∈ l, ol' y = ol y) → seg ol o l → seg ol' o l
  | [], _, _, h => h
  | x :: l, o, hc, h => ⟨h.1, by
    rw [hc x List.mem_cons_self]
    exact seg_congr (fun y hy => hc y (List.mem_cons_of_mem _ hy)) h.2⟩
/-- where a chain's first part ends -/
theorem seg_app {ol : Nat → Nat} : ∀ {pre suf : List Nat} {x o : Nat}, seg ol o (pre ++ x :: suf) → seg ol (ol x) suf
  | [], _, _, _, h => h.2
  | y :: pre, suf, x, o, h => seg_app (pre := pre) h.2
theorem seg_mid {ol : Nat → Nat} {c : Nat} : ∀ {pre suf : List Nat} {x o : Nat}, seg ol o (pre ++ x :: suf) → x ∉ pre → x ∉ suf → c ∉ pre → c ∉ suf → c ≠ x → seg (uN (uN ol c (ol x)) x (c + 1)) o (pre ++ x :: c :: suf)
  | [], suf, x, o, h, h1, h2, h3, h4, h5 => by
    refine ⟨h.1, ?_⟩
    rw [uN_s]
    refine ⟨rfl, ?_⟩
    rw [uN_n h5, uN_s]
    exact seg_congr (fun y hy => by rw [uN_n (fun e => h2 (by rw [← e]; exact hy)), uN_n (fun e => h4 (by rw [← e]; exact hy))]) h.2
  | y :: pre, suf, x, o, h, h1, h2, h3, h4, h5 => by
    have hyx : y ≠ x := fun e => h1 (by rw [e]; exact List.mem_cons_self)
    have hyc : y ≠ c := fun e => h3 (by rw [e]; exact List.mem_cons_self)
    refine ⟨h.1, ?_⟩
    rw [uN_n hyx, uN_n hyc]
    exact seg_mid (pre := pre) h.2 (fun e => h1 (List.mem_cons_of_mem _ e)) h2 (fun e => h3 (List.mem_cons_of_mem _ e)) h4 h5
theorem ins_split {ev : Nat → Nat} {c : Nat} {suf : List Nat} (hs : suf = [] ∨ ∃ z l, suf = z :: l ∧ ¬ ev c < ev z) : ∀ {pre : List Nat}, (∀ y ∈ pre, ev c < ev y) → ins ev c (pre ++ suf) = pre ++ c :: suf
  | [], _ => by
    rcases hs with rfl | ⟨z, l, rfl, h⟩
    · rfl
    · show (if ev c < ev z then _ else _) = _
      rw [if_neg h]
      rfl
  | y :: pre, hp => by
    show (if ev c < ev y then _ else _) = _
    rw [if_pos (hp y List.mem_cons_self)]
    show y :: ins ev c (pre ++ suf) = _
    rw [ins_split hs (fun z hz => hp z (List.mem_cons_of_mem _ hz))]
    rfl
/-- how putInChain leaves the links: hd and ol before, row c of pair q, its chain l -/
def putP (ev hd ol : Nat → Nat) (q c : Nat) (l : List Nat) (hd' ol' : Nat → Nat) : Prop := ∃ pre suf, l = pre ++ suf ∧ (∀ y ∈ pre, ev c < ev y) ∧ (suf = [] ∨ ∃ z l2, suf = z :: l2 ∧ ¬ ev c < ev z) ∧
  ((pre = [] ∧ hd' = uN hd q (c + 1) ∧ ol' = uN ol c (hd q)) ∨ ∃ pre2 x, pre = pre2 ++ [x] ∧ hd' = hd ∧ ol' = uN (uN ol c (ol x)) x (c + 1))
theorem putP_seg {ev hd ol hd' ol' : Nat → Nat} {q c : Nat} {l : List Nat} (h : putP ev hd ol q c l hd' ol') (hl : seg ol (hd q) l) (hc : c ∉ l) (hn : l.Nodup) : seg ol' (hd' q) (ins ev c l) := by
  obtain ⟨pre, suf, rfl, h1, h2, h3⟩ := h
  rw [ins_split h2 h1]
  rcases h3 with ⟨rfl, rfl, rfl⟩ | ⟨pre2, x, rfl, rfl, rfl⟩
  · rw [uN_s]
    refine ⟨rfl, ?_⟩
    rw [uN_s]
    exact seg_congr (fun y hy => uN_n (fun e => hc (by rw [← e]; exact hy))) hl
  · rw [List.append_assoc] at hl hc hn ⊢
    rw [List.nodup_append] at hn
    have hx2 : (x :: suf).Nodup := hn.2.1
    rw [List.nodup_cons] at hx2
    exact seg_mid hl (fun e => hn.2.2 x e x List.mem_cons_self rfl) hx2.1 (fun e => hc (List.mem_append_left _ e)) (fun e => hc (List.mem_append_right _ (List.mem_cons_of_mem _ e))) (fun e => hc (List.mem_append_right _ (by rw [e]; exact List.mem_cons_self)))
theorem putP_other {ev hd ol hd' ol' : Nat → Nat} {q c q2 : Nat} {l l2 : List Nat} (h : putP ev hd ol q c l hd' ol') (hq : q2 ≠ q) (hl : seg ol (hd q2) l2) (hc : c ∉ l2) (hd2 : ∀ y ∈ l, y ∉ l2) : seg ol' (hd' q2) l2 := by
  obtain ⟨pre, suf, rfl, h1, h2, h3⟩ := h
  rcases h3 with ⟨rfl, rfl, rfl⟩ | ⟨pre2, x, rfl, rfl, rfl⟩
  · rw [uN_n hq]
    exact seg_congr (fun y hy => uN_n (fun e => hc (by rw [← e]; exact hy))) hl
  · exact seg_congr (fun y hy => by
      rw [uN_n (fun e => hd2 x (List.mem_append_left _ (List.mem_append_right _ List.mem_cons_self)) (by rw [← e]; exact hy)), uN_n (fun e => hc (by rw [← e]; exact hy))]) hl
theorem srt_nodup {σ : St} {l : List Nat} (h : srt σ l) : l.Nodup := by
  unfold List.Nodup
  exact List.Pairwise.imp (fun h => h.2) h
-- the state behind an arrival
theorem ga_n (σ : St) (q v w : Nat) : s_n (g_arrive σ q v w) = s_n σ + 1 := rfl
theorem ga_pr (σ : St) (q v w : Nat) : s_pr (g_arrive σ q v w) = uN (s_pr σ) (s_n σ) q := rfl
theorem ga_ev (σ : St) (q v w : Nat) : s_ev (g_arrive σ q v w) = uN (s_ev σ) (s_n σ) v := rfl
theorem ga_ar (σ : St) (q v w : Nat) : s_ar (g_arrive σ q v w) = uN (s_ar σ) (s_n σ) (s_now σ) := rfl
theorem ga_vl (σ : St) (q v w : Nat) : s_vl (g_arrive σ q v w) = uN (s_vl σ) (s_n σ) w := rfl
theorem sI_arrive {σ : St} (hI : sI σ) {q v w : Nat} (hn : s_n σ < 200) (hq : q < 60) (hv : v ≤ s_now σ) (hw : w ≤ 100000) : sI (g_arrive σ q v w) := by
  obtain ⟨i_now, i_n, i_tk, i_k, i_lt, i_row, i_cp, i_srv⟩ := hI
  refine ⟨i_now, hn, Nat.le_succ_of_le i_tk, i_k, i_lt, ?_, ?_, ?_⟩
  · intro r hr
    rw [ga_n] at hr
    rw [ga_pr, ga_ev, ga_ar, ga_vl]
    by_cases e : r = s_n σ
    · subst e
      rw [uN_s, uN_s, uN_s, uN_s]
      exact ⟨hq, hv, Nat.le_refl _, hw⟩
    · rw [uN_n e, uN_n e, uN_n e, uN_n e]
      exact i_row r (by omega)
  · intro p hp
    obtain ⟨h1, h2⟩ := i_cp p hp
    refine ⟨h1, fun r hr => ?_⟩
    have h1' : s_cp σ p ≤ s_tk σ := h1
    have hr' : s_cp σ p = r + 1 := hr
    rw [ga_pr, uN_n (by omega)]
    exact h2 r hr'
  · intro i hi
    obtain ⟨h1, h2, h3⟩ := i_srv i hi
    exact ⟨h1, h2, Nat.le_succ_of_le h3⟩
theorem ins_congr {ev ev' : Nat → Nat} {c : Nat} : ∀ {l : List Nat}, ev' c = ev c → (∀ y ∈ l, ev' y = ev y) → ins ev' c l = ins ev c l
  | [], _, _ => rfl
  | y :: l, hc, h => by
    simp only [ins]
    rw [hc, h y List.mem_cons_self, ins_congr hc (fun z hz => h z (List.mem_cons_of_mem _ hz))]
theorem chn_congr {σ σ' : St} (q : Nat) : ∀ n : Nat, (∀ r, r < n → s_pr σ' r = s_pr σ r ∧ s_ev σ' r = s_ev σ r) → chn σ' q n = chn σ q n
  | 0, _ => rfl
  | n + 1, h => by
    have ih := chn_congr (σ := σ) (σ' := σ') q n (fun r hr => h r (by omega))
    simp only [chn]
    rw [(h n (Nat.lt_succ_self n)).1, ih, ins_congr (h n (Nat.lt_succ_self n)).2 (fun y hy => (h y (by have := (mem_chn.mp hy).1; omega)).2)]
theorem chn_arrive {σ : St} {q v w p : Nat} : chn (g_arrive σ q v w) p (s_n σ) = chn σ p (s_n σ) :=
  chn_congr p (s_n σ) (fun r hr => by rw [ga_pr, ga_ev, uN_n (by omega), uN_n (by omega)]; exact ⟨rfl, rfl⟩)
theorem xI_arrive {σ : St} {hd ol hd' ol' : Nat → Nat} {q v w : Nat} (hq : q < 60) (hX : xI σ hd ol) (h : putP (s_ev (g_arrive σ q v w)) hd (uN ol (s_n σ) 0) q (s_n σ) (chn σ q (s_n σ)) hd' ol') : xI (g_arrive σ q v w) hd' ol' := by
  have hfresh : ∀ p, s_n σ ∉ chn σ p (s_n σ) := fun p hp => absurd (mem_chn.mp hp).1 (Nat.lt_irrefl _)
  have hold : ∀ p, p < 60 → seg (uN ol (s_n σ) 0) (hd p) (chn σ p (s_n σ)) := fun p hp => seg_congr (fun y hy => uN_n (fun e => hfresh p (by subst e; exact hy))) (hX p hp)
  intro p hp
  rw [ga_n]
  simp only [chn]
  rw [chn_arrive, ga_pr, uN_s]
  by_cases e : q = p
  · subst e
    rw [if_pos rfl]
    exact putP_seg h (hold q hp) (hfresh q) (srt_nodup (srt_chn σ q _))
  · rw [if_neg e]
    exact putP_other h (fun z => e z.symm) (hold p hp) (hfresh p) (fun y hy hy2 => e ((mem_chn.mp hy).2.symm.trans (mem_chn.mp hy2).2))
theorem putP_le {ev hd ol hd' ol' : Nat → Nat} {q c N : Nat} {l : List Nat} (h : putP ev hd ol q c l hd' ol') (h1 : ∀ j, hd j ≤ N) (h2 : ∀ i, ol i ≤ N) (hc : c + 1 ≤ N) : (∀ j, hd' j ≤ N) ∧ ∀ i, ol' i ≤ N := by
  have hu : ∀ (f : Nat → Nat) (i x : Nat), (∀ j, f j ≤ N) → x ≤ N → ∀ j, uN f i x j ≤ N := fun f i x hf hx j => by
    by_cases e : j = i
    · subst e; rw [uN_s]; exact hx
    · rw [uN_n e]; exact hf j
  obtain ⟨pre, suf, -, -, -, h3⟩ := h
  rcases h3 with ⟨-, rfl, rfl⟩ | ⟨pre2, x, -, rfl, rfl⟩
  · exact ⟨hu _ _ _ h1 hc, hu _ _ _ h2 (h1 q)⟩
  · exact ⟨h1, hu _ _ _ (hu _ _ _ h2 (h2 x)) hc⟩
theorem xJ_arrive {σ : St} {hd ol hd' ol' : Nat → Nat} {q v w : Nat} {l : List Nat} {ev : Nat → Nat} (hJ : xJ σ hd ol) (h : putP ev hd (uN ol (s_n σ) 0) q (s_n σ) l hd' ol') : xJ (g_arrive σ q v w) hd' ol' := by
  obtain ⟨h1, h2, h3⟩ := hJ
  obtain ⟨g1, g2⟩ := putP_le (N := s_n σ + 1) h (fun j => Nat.le_succ_of_le (h1 j)) (fun i => by
    by_cases e : i = s_n σ
    · subst e; rw [uN_s]; exact Nat.zero_le _
    · rw [uN_n e]; exact Nat.le_succ_of_le (h2 i)) (Nat.le_refl _)
  exact ⟨g1, g2, fun j => Nat.le_succ_of_le (h3 j)⟩
theorem rfN_new {ra : Nat → Nat} {n q o : Nat} (h : o ≤ n) : rfN (uN ra n q) o = rfN ra o := by
  cases o with
  | zero => rfl
  | succ o => show some (uN ra n q o) = some (ra o); rw [uN_n (by omega)]
/-- the world with the new row in its pool, not yet listed -/
theorem xNew {cI cR cS : ClassId} {x0 q5 : Nat} {b ra sb hd ol : Nat → Nat} {σ : St} {f e v w : Nat} (hf : f < 6) (he : e < 10) (hJ : xJ σ hd ol) :
    List.Perm (α := Nat × va_E) (xW cI cR cS x0 b ra sb hd ol σ ++ [(q5, .inr (0, [.int (nI (s_n σ)), .int (nI f), .int (nI e), .int (nI v), .int (nI (s_now σ)), .int (nI w), .null]))])
    ((x0, .inr (2, [.int (nI (s_now σ)), .ref (b 0), .ref (b 1), .int (nI (s_n σ)), .ref (b 2), .ref (b 3), .int (nI (s_tk σ)), .ref (b 4), .int (nI (s_k σ))])) ::
    (b 0, .inl (cI, 6, .inl (fun j => nI (s_lt σ j)))) :: (b 1, .inl (cR, 200, .inr (.inr (.inr (.inr (fun j => if j < s_n σ then some (uN ra (s_n σ) q5 j) else none)))))) ::
    (b 2, .inl (cR, 60, .inr (.inr (.inr (.inr (fun j => rfN (uN ra (s_n σ) q5) (hd j))))))) :: (b 3, .inl (cR, 60, .inr (.inr (.inr (.inr (fun j => rfN (uN ra (s_n σ) q5) (s_cp σ j))))))) ::
    (b 4, .inl (cS, 200, .inr (.inr (.inr (.inr (fun j => if j < s_k σ then some (sb j) else none)))))) ::
    poolE (uN ra (s_n σ) q5) sb (uN ol (s_n σ) 0) (g_arrive σ (10 * f + e) v w) (s_n σ + 1) (s_k σ)) := by
  obtain ⟨h1, h2, h3⟩ := hJ
  have e1 : (fun j => if j < s_n σ then some (uN ra (s_n σ) q5 j) else none) = fun j => if j < s_n σ then some (ra j) else none := by
    funext j
    by_cases h : j < s_n σ
    · rw [if_pos h, if_pos h, uN_n (by omega)]
    · rw [if_neg h, if_neg h]
  have e2 : (fun j => rfN (uN ra (s_n σ) q5) (hd j)) = fun j => rfN ra (hd j) := by funext j; exact rfN_new (h1 j)
  have e3 : (fun j => rfN (uN ra (s_n σ) q5) (s_cp σ j)) = fun j => rfN ra (s_cp σ j) := by funext j; exact rfN_new (h3 j)
  rw [e1, e2, e3]
  refine List.Perm.cons _ (List.Perm.cons _ (List.Perm.cons _ (List.Perm.cons _ (List.Perm.cons _ (List.Perm.cons _ ?_)))))
  have e4 : (List.range (s_n σ + 1)).map (rowE (uN ra (s_n σ) q5) (uN ol (s_n σ) 0) (g_arrive σ (10 * f + e) v w)) = (List.range (s_n σ)).map (rowE ra ol σ) ++ [(q5, .inr (0, [.int (nI (s_n σ)), .int (nI f), .int (nI e), .int (nI v), .int (nI (s_now σ)), .int (nI w), .null]))] := by
    rw [List.range_succ, List.map_append]
    congr 1
    · refine List.map_congr_left (fun i hi => ?_)
      have hi : i < s_n σ := List.mem_range.mp hi
      unfold rowE
      rw [ga_pr, ga_ev, ga_ar, ga_vl, uN_n (by omega), uN_n (by omega), uN_n (by omega), uN_n (by omega), uN_n (by omega), uN_n (by omega), rfN_new (h2 i)]
    · show [rowE _ _ _ _] = _
      unfold rowE
      rw [ga_pr, ga_ev, ga_ar, ga_vl, uN_s, uN_s, uN_s, uN_s, uN_s, uN_s, show (10 * f + e) / 10 = f from by omega, show (10 * f + e) % 10 = e from by omega]
      rfl
  have e5 : (List.range (s_k σ)).map (srvE sb (g_arrive σ (10 * f + e) v w)) = (List.range (s_k σ)).map (srvE sb σ) := rfl
  unfold poolE
  rw [e4, e5, List.append_eq, List.append_assoc, List.append_assoc]
  exact List.Perm.append_left _ List.perm_append_comm
-- a serving
theorem gs_k (σ : St) (q : Nat) : s_k (g_serve σ q) = s_k σ + 1 := rfl
theorem gs_sp (σ : St) (q : Nat) : s_sp (g_serve σ q) = uN (s_sp σ) (s_k σ) q := rfl
theorem gs_sa (σ : St) (q : Nat) : s_sa (g_serve σ q) = uN (s_sa σ) (s_k σ) (s_now σ) := rfl
theorem gs_sv (σ : St) (q : Nat) : s_sv (g_serve σ q) = uN (s_sv σ) (s_k σ) (q_fr σ (s_cp σ q) (s_now σ)) := rfl
theorem xNewS {cI cR cS : ClassId} {x0 q5 : Nat} {b ra sb hd ol : Nat → Nat} {σ : St} {f e : Nat} (hf : f < 6) (he : e < 10) :
    List.Perm (α := Nat × va_E) (xW cI cR cS x0 b ra sb hd ol σ ++ [(q5, .inr (1, [.int (nI f), .int (nI e), .int (nI (s_now σ)), .int (eN (q_fr σ (s_cp σ (10 * f + e)) (s_now σ)))]))])
    ((x0, .inr (2, [.int (nI (s_now σ)), .ref (b 0), .ref (b 1), .int (nI (s_n σ)), .ref (b 2), .ref (b 3), .int (nI (s_tk σ)), .ref (b 4), .int (nI (s_k σ))])) ::
    (b 0, .inl (cI, 6, .inl (fun j => nI (s_lt σ j)))) :: (b 1, .inl (cR, 200, .inr (.inr (.inr (.inr (fun j => if j < s_n σ then some (ra j) else none)))))) ::
    (b 2, .inl (cR, 60, .inr (.inr (.inr (.inr (fun j => rfN ra (hd j))))))) :: (b 3, .inl (cR, 60, .inr (.inr (.inr (.inr (fun j => rfN ra (s_cp σ j))))))) ::
    (b 4, .inl (cS, 200, .inr (.inr (.inr (.inr (fun j => if j < s_k σ then some (uN sb (s_k σ) q5 j) else none)))))) ::
    poolE ra (uN sb (s_k σ) q5) ol (g_serve σ (10 * f + e)) (s_n σ) (s_k σ + 1)) := by
  have e1 : (fun j => if j < s_k σ then some (uN sb (s_k σ) q5 j) else none) = fun j => if j < s_k σ then some (sb j) else none := by
    funext j
    by_cases h : j < s_k σ
    · rw [if_pos h, if_pos h, uN_n (by omega)]
    · rw [if_neg h, if_neg h]
  rw [e1]
  refine List.Perm.cons _ (List.Perm.cons _ (List.Perm.cons _ (List.Perm.cons _ (List.Perm.cons _ (List.Perm.cons _ ?_)))))
  have e4 : (List.range (s_k σ + 1)).map (srvE (uN sb (s_k σ) q5) (g_serve σ (10 * f + e))) = (List.range (s_k σ)).map (srvE sb σ) ++ [(q5, .inr (1, [.int (nI f), .int (nI e), .int (nI (s_now σ)), .int (eN (q_fr σ (s_cp σ (10 * f + e)) (s_now σ)))]))] := by
    rw [List.range_succ, List.map_append]
    congr 1
    · refine List.map_congr_left (fun i hi => ?_)
      have hi : i < s_k σ := List.mem_range.mp hi
      unfold srvE
      rw [gs_sp, gs_sa, gs_sv, uN_n (by omega), uN_n (by omega), uN_n (by omega), uN_n (by omega)]
    · show [srvE _ _ _] = _
      unfold srvE
      rw [gs_sp, gs_sa, gs_sv, uN_s, uN_s, uN_s, uN_s, show (10 * f + e) / 10 = f from by omega, show (10 * f + e) % 10 = e from by omega]
  have e5 : (List.range (s_n σ)).map (rowE ra ol (g_serve σ (10 * f + e))) = (List.range (s_n σ)).map (rowE ra ol σ) := rfl
  unfold poolE
  rw [e4, e5, ← List.append_assoc]
  exact List.Perm.refl _
theorem pool_srv {ra sb ol : Nat → Nat} {σ : St} {n k i : Nat} (hi : i < k) : (poolE ra sb ol σ n k)[n + i]? = some (srvE sb σ i) := by
  rw [List.getElem?_append_right (by simp)]
  simp [hi]
theorem sI_serve {σ : St} (hI : sI σ) {q : Nat} (hk : s_k σ < 200) (hq : q < 60) : sI (g_serve σ q) := by
  obtain ⟨i_now, i_n, i_tk, i_k, i_lt, i_row, i_cp, i_srv⟩ := hI
  refine ⟨i_now, i_n, i_tk, hk, i_lt, i_row, i_cp, ?_⟩
  intro i hi
  rw [gs_k] at hi
  rw [gs_sp, gs_sa, gs_sv]
  by_cases e : i = s_k σ
  · subst e
    rw [uN_s, uN_s, uN_s]
    refine ⟨hq, Nat.le_refl _, q_fr_le ?_⟩
    have := (i_cp q hq).1
    show s_cp σ q ≤ s_n σ
    omega
  · rw [uN_n e, uN_n e, uN_n e]
    exact i_srv i (by omega)
theorem sI_pass {σ : St} (hI : sI σ) {t : Nat} (ht : s_now σ + t ≤ 10000) : sI (g_pass σ t) := by
  obtain ⟨i_now, i_n, i_tk, i_k, i_lt, i_row, i_cp, i_srv⟩ := hI
  have e : s_now (g_pass σ t) = s_now σ + t := rfl
  refine ⟨ht, i_n, i_tk, i_k, i_lt, fun r hr => ?_, i_cp, fun i hi => ?_⟩
  · obtain ⟨h1, h2, h3, h4⟩ := i_row r hr
    exact ⟨h1, h2, Nat.le_trans h3 (Nat.le_add_right _ _), h4⟩
  · obtain ⟨h1, h2, h3⟩ := i_srv i hi
    exact ⟨h1, Nat.le_trans h2 (Nat.le_add_right _ _), h3⟩
theorem sI_setL {σ : St} (hI : sI σ) {f t : Nat} (ht : t ≤ 10000) : sI (g_setL σ f t) := by
  obtain ⟨i_now, i_n, i_tk, i_k, i_lt, i_row, i_cp, i_srv⟩ := hI
  refine ⟨i_now, i_n, i_tk, i_k, fun g hg => ?_, i_row, i_cp, i_srv⟩
  show uN (s_lt σ) f t g ≤ 10000
  by_cases e : g = f
  · subst e; rw [uN_s]; exact ht
  · rw [uN_n e]; exact i_lt g hg
end
section
/-! the class: putInChain, arrive, serve (laid by wip/whole/gen/x2wr3.py) -/
set_option maxHeartbeats 4000000 in
set_option maxRecDepth 100000 in
theorem c_X2_putInChain (l : Launch) (dD : va_G) (cI cR cS : ClassId) (lo : Nat) (sz : Nat) (hlo : lo ≤ sz) (x0 : Nat) (b ra sb hd ol : Nat → Nat) (σ : St) (hI : sI σ) (c_ : Nat) (hc_ : c_ < s_n σ) (l0 : List Nat) (hl0 : seg ol (hd (s_pr σ c_)) l0) (hm0 : ∀ y ∈ l0, y < s_n σ ∧ y ≠ c_) : Met l yX2_putInChain wsX2_putInChain ({ frames := 1, cells := 0, slots := 0, locals := 21 }) (ePc dD cI cR cS lo [.ref x0, .ref (ra c_)] (fun H => H.size = sz ∧ va_P dD vwCl (xW cI cR cS x0 b ra sb hd ol σ) H ∧ va_D (fun q => lo ≤ q) (xW cI cR cS x0 b ra sb hd ol σ))) (va_Qv (fun (u : (Nat → Nat) × (Nat → Nat)) => putP (s_ev σ) hd ol (s_pr σ c_) c_ l0 u.1 u.2) (fun u t => va_P dD vwCl (xW cI cR cS x0 b ra sb u.1 u.2 σ) t.heap) (va_A (xW cI cR cS x0 b ra sb hd ol σ) sz)) 0 0 (va_A (xW cI cR cS x0 b ra sb hd ol σ) sz) := by
  refine Met.ofW (cc := cX2_putInChain) (maxL := 5) (ret := none) (by decide) rfl ?_
  intro p e_ s m args below meth c s₁ B hml hv
  obtain ⟨rfl, hE, hsz, hP, hD0⟩ := hv
  have hx := B.exec
  have hb := B.bytes
  have hr := B.returns
  have hts := atoms_spec (ws := wsX2_putInChain) B.pre
  have hown : s.vm.findClass RX2 = some m.cls := findClass_of_methodNamed B.named
  have hlocks := B.notSynchronized
  have hK := hE.1.1
  have hinX0 : ∀ w ∈ u_ws RX0 TX0 7, w ∈ wsX2_putInChain := by decide +kernel
  have hinX2 : ∀ w ∈ u_ws RX2 TX2 9, w ∈ wsX2_putInChain := by decide +kernel
  subst hsz
  have hD := hD0.self (sz := s.heap.size)
  have hAlo : ∀ q, va_A (xW cI cR cS x0 b ra sb hd ol σ) s.heap.size q → lo ≤ q := eA_lo hD0 hlo
  generalize hAe : va_A (xW cI cR cS x0 b ra sb hd ol σ) s.heap.size = A at hD hAlo ⊢
  have hA : ∀ q : Nat, s.heap.size ≤ q → A q := fun q h => by rw [← hAe]; exact Or.inr h
  have hS : va_S A s.heap s.heap [] := va_S.rf
  have hP : va_P dD vwCl (xW cI cR cS x0 b ra sb hd ol σ) s.heap := hP
  obtain ⟨i_now, i_n, i_tk, i_k, i_lt, i_row, i_cp, i_srv⟩ := id hI
  have hl := lv_entry ([.ref x0, .ref (ra c_)]) (n := 5) (Nat.le_of_ble_eq_true rfl)
  rw [lg_entry_eq]
  generalize (lg_sl ([.ref x0, .ref (ra c_)]) ++ List.replicate (5 - (lg_sl ([.ref x0, .ref (ra c_)])).length) Slot.unset).toArray = ls at hl ⊢
  have hl : lv_has ls 5 [(0, .ref x0), (1, .ref (ra c_))] := hl
  obtain ⟨hz_1, hz_2, hz_3, hz_4⟩ := i_row c_ hc_
  have hR := xRow hP hc_
  refine lv_aload_n hx hb dX2_putInChain_0 rfl (lv_at hl 1 rfl) ?_
  refine va_get (D := dD) (ci := 0) (v := .int (nI (s_pr σ c_ / 10))) (C := RX0) (T := TX0) (N := 7) hx hb hts hinX0 hown hK hR 0 rfl rfl 1 (by decide) (hts (.fieldLink RX2 154 "FeatureStore$Row" "feature" "I") (by decide +kernel)) (fun _ h9 => h9) rfl dX2_putInChain_1 ?_
  refine lv_aload_n hx hb dX2_putInChain_4 rfl (lv_at hl 1 rfl) ?_
  refine va_get (D := dD) (ci := 0) (v := .int (nI (s_pr σ c_ % 10))) (C := RX0) (T := TX0) (N := 7) hx hb hts hinX0 hown hK hR 0 rfl rfl 2 (by decide) (hts (.fieldLink RX2 155 "FeatureStore$Row" "entity" "I") (by decide +kernel)) (fun _ h9 => h9) rfl dX2_putInChain_5 ?_
  refine vp_callSi (va_Run.run (va_runS (As := [.int (nI (s_pr σ c_ / 10)), .int (nI (s_pr σ c_ % 10))]) (rest := []) ⟨hx, hb, hml, hown, hts⟩ (c_X2_placeOf l dD cI cR cS lo (s_pr σ c_ / 10) (s_pr σ c_ % 10)) (va_cwS 2 hts gX2_putInChain_X2_placeOf rfl rfl rfl (by decide +kernel) ⟨Nat.le_of_ble_eq_true rfl, Nat.le_of_ble_eq_true rfl⟩) (ePreS hE (hS.mono hAlo) trivial) rfl rfl hl.1 rfl (lv_room (Nat.le_of_ble_eq_true rfl)) dX2_putInChain_8 ⟨Nat.le_of_ble_eq_true rfl, Nat.le_of_ble_eq_true rfl⟩)) (fun r_8 hr_8 => ?_)
  subst hr_8
  rw [show 10 * (s_pr σ c_ / 10) + (s_pr σ c_ % 10) = s_pr σ c_ from by omega]
  refine lv_istore_n (lv' := [(2, .int (nI (s_pr σ c_))), (0, .ref x0), (1, .ref (ra c_))]) hx hb dX2_putInChain_11 rfl hl (by decide) rfl (fun ls hl => ?_)
  refine lv_null hx hb dX2_putInChain_12 ?_
  refine lv_astore_nN (lv' := [(3, .null), (2, .int (nI (s_pr σ c_))), (0, .ref x0), (1, .ref (ra c_))]) hx hb dX2_putInChain_13 rfl hl (by decide) rfl (fun ls hl => ?_)
  refine lv_aload_n hx hb dX2_putInChain_14 rfl (lv_at hl 2 rfl) ?_
  refine va_get (D := dD) (ci := 2) (v := .ref (b 2)) (C := RX2) (T := TX2) (N := 9) hx hb hts hinX2 hown hK hP 0 rfl rfl 4 (by decide) (hts (.fieldLink RX2 19 "FeatureStore" "latest" "[LFeatureStore$Row;") (by decide +kernel)) (fun _ h9 => h9) rfl dX2_putInChain_15 ?_
  refine lv_iload_n hx hb dX2_putInChain_18 rfl (lv_at hl 1 rfl) ?_
  refine nq_aald (q0 := 3) (t0 := 1) (fun j => rfN ra (hd j)) hx hb hK hP rfl rfl (by omega) (by decide) dX2_putInChain_19 ?_
  refine nq_astore (lv' := [(4, va_rf (rfN ra (hd (s_pr σ c_)))), (3, .null), (2, .int (nI (s_pr σ c_))), (0, .ref x0), (1, .ref (ra c_))]) hx hb dX2_putInChain_20 hl (by decide) rfl (fun ls hl => ?_)
  have hlp : ∀ (suf pre : List Nat) (pv o : Nat), l0 = pre ++ suf → (∀ y ∈ pre, s_ev σ c_ < s_ev σ y) → seg ol o suf → ((pre = [] ∧ pv = 0 ∧ o = hd (s_pr σ c_)) ∨ ∃ pre2 x, pre = pre2 ++ [x] ∧ pv = x + 1 ∧ o = ol x) → ∀ (ls : Array Slot), lv_has ls 5 [(0, .ref x0), (1, .ref (ra c_)), (2, .int (nI (s_pr σ c_))), (3, va_rf (rfN ra pv)), (4, va_rf (rfN ra o))] → W p l e_ (headSpec wsX2_putInChain ({ frames := 1, cells := 0, slots := 0, locals := 21 })).room s m (([.ref x0, .ref (ra c_)] : List Value).toArray) below meth c s.heap [] 0 0 (MQ below (va_Qv (fun (u : (Nat → Nat) × (Nat → Nat)) => putP (s_ev σ) hd ol (s_pr σ c_) c_ l0 u.1 u.2) (fun u t => va_P dD vwCl (xW cI cR cS x0 b ra sb u.1 u.2 σ) t.heap) A) (([.ref x0, .ref (ra c_)] : List Value).toArray) s 0 0 A) (F0 m 22 ls []) := by
    intro suf
    induction suf with
    | nil =>
      intro pre pv o hsp_ hgt_ hs_ hpv_ ls hl
      have ho_ : o = 0 := hs_
      subst ho_
      have hl : lv_has ls 5 [(0, .ref x0), (1, .ref (ra c_)), (2, .int (nI (s_pr σ c_))), (3, va_rf (rfN ra pv)), (4, .null)] := hl
      refine lv_aloadN hx hb dX2_putInChain_22 (lv_at hl 4 rfl) ?_
      refine lv_ifnullN (tgt := 52) hx hb dX2_putInChain_24 (by decide) ?_
      rcases hpv_ with ⟨hpre_, rfl, ho2_⟩ | ⟨pre2, x, hpre_, rfl, ho2_⟩
      · have hl : lv_has ls 5 [(0, .ref x0), (1, .ref (ra c_)), (2, .int (nI (s_pr σ c_))), (3, .null), (4, .null)] := hl
        refine lv_aload_n hx hb dX2_putInChain_52 rfl (lv_at hl 1 rfl) ?_
        refine lv_aloadN hx hb dX2_putInChain_53 (lv_at hl 4 rfl) ?_
        refine va_put (D := dD) (ci := 0) (v := va_rf (rfN ra 0)) (ty := .object "FeatureStore$Row") (C := RX0) (T := TX0) (N := 7) hx hb hts hinX0 tyX0 tyX0_ok nmX0 hown hK hP hD hS (c_ + 6) (pool_row hc_) rfl 6 (by decide) (hts (.fieldLink RX2 87 "FeatureStore$Row" "older" "LFeatureStore$Row;") (by decide +kernel)) (fun _ h9 => h9) rfl (by decide +kernel) nar_rf fit_rf (Nat.le_of_ble_eq_true rfl) dX2_putInChain_55 (fun H locs hP hD hS => ?_)
        have hP : va_P dD vwCl ((x0, .inr (2, [.int (nI (s_now σ)), .ref (b 0), .ref (b 1), .int (nI (s_n σ)), .ref (b 2), .ref (b 3), .int (nI (s_tk σ)), .ref (b 4), .int (nI (s_k σ))])) :: (b 0, .inl (cI, 6, .inl (fun j => nI (s_lt σ j)))) :: (b 1, .inl (cR, 200, .inr (.inr (.inr (.inr (fun j => if j < s_n σ then some (ra j) else none)))))) :: (b 2, .inl (cR, 60, .inr (.inr (.inr (.inr (fun j => rfN ra (hd j))))))) :: (b 3, .inl (cR, 60, .inr (.inr (.inr (.inr (fun j => rfN ra (s_cp σ j))))))) :: (b 4, .inl (cS, 200, .inr (.inr (.inr (.inr (fun j => if j < s_k σ then some (sb j) else none)))))) :: ((poolE ra sb ol σ (s_n σ) (s_k σ)).set c_ (ra c_, .inr (0, [.int (nI c_), .int (nI (s_pr σ c_ / 10)), .int (nI (s_pr σ c_ % 10)), .int (nI (s_ev σ c_)), .int (nI (s_ar σ c_)), .int (nI (s_vl σ c_)), va_rf (rfN ra 0)])))) H := hP
        have hD : va_D A ((x0, .inr (2, [.int (nI (s_now σ)), .ref (b 0), .ref (b 1), .int (nI (s_n σ)), .ref (b 2), .ref (b 3), .int (nI (s_tk σ)), .ref (b 4), .int (nI (s_k σ))])) :: (b 0, .inl (cI, 6, .inl (fun j => nI (s_lt σ j)))) :: (b 1, .inl (cR, 200, .inr (.inr (.inr (.inr (fun j => if j < s_n σ then some (ra j) else none)))))) :: (b 2, .inl (cR, 60, .inr (.inr (.inr (.inr (fun j => rfN ra (hd j))))))) :: (b 3, .inl (cR, 60, .inr (.inr (.inr (.inr (fun j => rfN ra (s_cp σ j))))))) :: (b 4, .inl (cS, 200, .inr (.inr (.inr (.inr (fun j => if j < s_k σ then some (sb j) else none)))))) :: ((poolE ra sb ol σ (s_n σ) (s_k σ)).set c_ (ra c_, .inr (0, [.int (nI c_), .int (nI (s_pr σ c_ / 10)), .int (nI (s_pr σ c_ % 10)), .int (nI (s_ev σ c_)), .int (nI (s_ar σ c_)), .int (nI (s_vl σ c_)), va_rf (rfN ra 0)])))) := hD
        rw [pool_set hc_] at hP hD
        refine lv_aload_nN hx hb dX2_putInChain_58 rfl (lv_at hl 3 rfl) ?_
        refine lv_ifnonnullN hx hb dX2_putInChain_59 ?_
        refine lv_aload_n hx hb dX2_putInChain_62 rfl (lv_at hl 0 rfl) ?_
        refine va_get (D := dD) (ci := 2) (v := .ref (b 2)) (C := RX2) (T := TX2) (N := 9) hx hb hts hinX2 hown hK hP 0 rfl rfl 4 (by decide) (hts (.fieldLink RX2 19 "FeatureStore" "latest" "[LFeatureStore$Row;") (by decide +kernel)) (fun _ h9 => h9) rfl dX2_putInChain_63 ?_
        refine lv_iload_n hx hb dX2_putInChain_66 rfl (lv_at hl 2 rfl) ?_
        refine lv_aload_n hx hb dX2_putInChain_67 rfl (lv_at hl 1 rfl) ?_
        refine nq_aast (q0 := 3) (t0 := 1) (qk := c_ + 6) (ci := 0) (r := (RX0, TX0, 7)) (fun j => rfN ra (hd j)) (fun j => rfN ra (uN (hd) (s_pr σ c_) (c_ + 1) j)) hx hb hK hP hD hS rfl rfl (pool_row hc_) rfl (by omega) (by decide) upQ dX2_putInChain_68 (fun H locs hP hD hS => ?_)
        have hP : va_P dD vwCl ((x0, .inr (2, [.int (nI (s_now σ)), .ref (b 0), .ref (b 1), .int (nI (s_n σ)), .ref (b 2), .ref (b 3), .int (nI (s_tk σ)), .ref (b 4), .int (nI (s_k σ))])) :: (b 0, .inl (cI, 6, .inl (fun j => nI (s_lt σ j)))) :: (b 1, .inl (cR, 200, .inr (.inr (.inr (.inr (fun j => if j < s_n σ then some (ra j) else none)))))) :: (b 2, .inl (cR, 60, .inr (.inr (.inr (.inr (fun j => rfN ra ((uN (hd) (s_pr σ c_) (c_ + 1)) j))))))) :: (b 3, .inl (cR, 60, .inr (.inr (.inr (.inr (fun j => rfN ra (s_cp σ j))))))) :: (b 4, .inl (cS, 200, .inr (.inr (.inr (.inr (fun j => if j < s_k σ then some (sb j) else none)))))) :: (poolE ra sb (uN ol c_ 0) σ (s_n σ) (s_k σ))) H := hP
        have hD : va_D A ((x0, .inr (2, [.int (nI (s_now σ)), .ref (b 0), .ref (b 1), .int (nI (s_n σ)), .ref (b 2), .ref (b 3), .int (nI (s_tk σ)), .ref (b 4), .int (nI (s_k σ))])) :: (b 0, .inl (cI, 6, .inl (fun j => nI (s_lt σ j)))) :: (b 1, .inl (cR, 200, .inr (.inr (.inr (.inr (fun j => if j < s_n σ then some (ra j) else none)))))) :: (b 2, .inl (cR, 60, .inr (.inr (.inr (.inr (fun j => rfN ra ((uN (hd) (s_pr σ c_) (c_ + 1)) j))))))) :: (b 3, .inl (cR, 60, .inr (.inr (.inr (.inr (fun j => rfN ra (s_cp σ j))))))) :: (b 4, .inl (cS, 200, .inr (.inr (.inr (.inr (fun j => if j < s_k σ then some (sb j) else none)))))) :: (poolE ra sb (uN ol c_ 0) σ (s_n σ) (s_k σ))) := hD
        refine lv_goto (tgt := 77) hx hb dX2_putInChain_69 (by decide) ?_
        exact W.vret hx hb hr (fun u9 hu9 hW => ⟨⟨(uN hd (s_pr σ c_) (c_ + 1), (uN ol c_ 0)), rfl, ⟨pre, [], hsp_, hgt_, Or.inl rfl, Or.inl ⟨hpre_, rfl, by rw [← ho2_]⟩⟩, by have h9 := hP; rw [← hu9] at h9; exact h9⟩, hS.F hu9⟩) hS.2.2 dX2_putInChain_77
      · have hl : lv_has ls 5 [(0, .ref x0), (1, .ref (ra c_)), (2, .int (nI (s_pr σ c_))), (3, .ref (ra x)), (4, .null)] := hl
        obtain ⟨hz_x, hz_xc⟩ := hm0 x (by rw [hsp_, hpre_]; exact List.mem_append_left _ (List.mem_append_right _ List.mem_cons_self))
        refine lv_aload_n hx hb dX2_putInChain_52 rfl (lv_at hl 1 rfl) ?_
        refine lv_aloadN hx hb dX2_putInChain_53 (lv_at hl 4 rfl) ?_
        refine va_put (D := dD) (ci := 0) (v := va_rf (rfN ra 0)) (ty := .object "FeatureStore$Row") (C := RX0) (T := TX0) (N := 7) hx hb hts hinX0 tyX0 tyX0_ok nmX0 hown hK hP hD hS (c_ + 6) (pool_row hc_) rfl 6 (by decide) (hts (.fieldLink RX2 87 "FeatureStore$Row" "older" "LFeatureStore$Row;") (by decide +kernel)) (fun _ h9 => h9) rfl (by decide +kernel) nar_rf fit_rf (Nat.le_of_ble_eq_true rfl) dX2_putInChain_55 (fun H locs hP hD hS => ?_)
        have hP : va_P dD vwCl ((x0, .inr (2, [.int (nI (s_now σ)), .ref (b 0), .ref (b 1), .int (nI (s_n σ)), .ref (b 2), .ref (b 3), .int (nI (s_tk σ)), .ref (b 4), .int (nI (s_k σ))])) :: (b 0, .inl (cI, 6, .inl (fun j => nI (s_lt σ j)))) :: (b 1, .inl (cR, 200, .inr (.inr (.inr (.inr (fun j => if j < s_n σ then some (ra j) else none)))))) :: (b 2, .inl (cR, 60, .inr (.inr (.inr (.inr (fun j => rfN ra (hd j))))))) :: (b 3, .inl (cR, 60, .inr (.inr (.inr (.inr (fun j => rfN ra (s_cp σ j))))))) :: (b 4, .inl (cS, 200, .inr (.inr (.inr (.inr (fun j => if j < s_k σ then some (sb j) else none)))))) :: ((poolE ra sb ol σ (s_n σ) (s_k σ)).set c_ (ra c_, .inr (0, [.int (nI c_), .int (nI (s_pr σ c_ / 10)), .int (nI (s_pr σ c_ % 10)), .int (nI (s_ev σ c_)), .int (nI (s_ar σ c_)), .int (nI (s_vl σ c_)), va_rf (rfN ra 0)])))) H := hP
        have hD : va_D A ((x0, .inr (2, [.int (nI (s_now σ)), .ref (b 0), .ref (b 1), .int (nI (s_n σ)), .ref (b 2), .ref (b 3), .int (nI (s_tk σ)), .ref (b 4), .int (nI (s_k σ))])) :: (b 0, .inl (cI, 6, .inl (fun j => nI (s_lt σ j)))) :: (b 1, .inl (cR, 200, .inr (.inr (.inr (.inr (fun j => if j < s_n σ then some (ra j) else none)))))) :: (b 2, .inl (cR, 60, .inr (.inr (.inr (.inr (fun j => rfN ra (hd j))))))) :: (b 3, .inl (cR, 60, .inr (.inr (.inr (.inr (fun j => rfN ra (s_cp σ j))))))) :: (b 4, .inl (cS, 200, .inr (.inr (.inr (.inr (fun j => if j < s_k σ then some (sb j) else none)))))) :: ((poolE ra sb ol σ (s_n σ) (s_k σ)).set c_ (ra c_, .inr (0, [.int (nI c_), .int (nI (s_pr σ c_ / 10)), .int (nI (s_pr σ c_ % 10)), .int (nI (s_ev σ c_)), .int (nI (s_ar σ c_)), .int (nI (s_vl σ c_)), va_rf (rfN ra 0)])))) := hD
        rw [pool_set hc_] at hP hD
        refine lv_aload_n hx hb dX2_putInChain_58 rfl (lv_at hl 3 rfl) ?_
        refine lv_ifnonnull (tgt := 72) hx hb dX2_putInChain_59 (by decide) ?_
        refine lv_aload_n hx hb dX2_putInChain_72 rfl (lv_at hl 3 rfl) ?_
        refine lv_aload_n hx hb dX2_putInChain_73 rfl (lv_at hl 1 rfl) ?_
        refine va_put (D := dD) (ci := 0) (v := va_rf (rfN ra ((c_ + 1)))) (ty := .object "FeatureStore$Row") (C := RX0) (T := TX0) (N := 7) hx hb hts hinX0 tyX0 tyX0_ok nmX0 hown hK hP hD hS (x + 6) (pool_row hz_x) rfl 6 (by decide) (hts (.fieldLink RX2 87 "FeatureStore$Row" "older" "LFeatureStore$Row;") (by decide +kernel)) (fun _ h9 => h9) rfl (by decide +kernel) nar_rf fit_rf (Nat.le_of_ble_eq_true rfl) dX2_putInChain_74 (fun H locs hP hD hS => ?_)
        have hP : va_P dD vwCl ((x0, .inr (2, [.int (nI (s_now σ)), .ref (b 0), .ref (b 1), .int (nI (s_n σ)), .ref (b 2), .ref (b 3), .int (nI (s_tk σ)), .ref (b 4), .int (nI (s_k σ))])) :: (b 0, .inl (cI, 6, .inl (fun j => nI (s_lt σ j)))) :: (b 1, .inl (cR, 200, .inr (.inr (.inr (.inr (fun j => if j < s_n σ then some (ra j) else none)))))) :: (b 2, .inl (cR, 60, .inr (.inr (.inr (.inr (fun j => rfN ra (hd j))))))) :: (b 3, .inl (cR, 60, .inr (.inr (.inr (.inr (fun j => rfN ra (s_cp σ j))))))) :: (b 4, .inl (cS, 200, .inr (.inr (.inr (.inr (fun j => if j < s_k σ then some (sb j) else none)))))) :: ((poolE ra sb ((uN ol c_ 0)) σ (s_n σ) (s_k σ)).set x (ra x, .inr (0, [.int (nI x), .int (nI (s_pr σ x / 10)), .int (nI (s_pr σ x % 10)), .int (nI (s_ev σ x)), .int (nI (s_ar σ x)), .int (nI (s_vl σ x)), va_rf (rfN ra ((c_ + 1)))])))) H := hP
        have hD : va_D A ((x0, .inr (2, [.int (nI (s_now σ)), .ref (b 0), .ref (b 1), .int (nI (s_n σ)), .ref (b 2), .ref (b 3), .int (nI (s_tk σ)), .ref (b 4), .int (nI (s_k σ))])) :: (b 0, .inl (cI, 6, .inl (fun j => nI (s_lt σ j)))) :: (b 1, .inl (cR, 200, .inr (.inr (.inr (.inr (fun j => if j < s_n σ then some (ra j) else none)))))) :: (b 2, .inl (cR, 60, .inr (.inr (.inr (.inr (fun j => rfN ra (hd j))))))) :: (b 3, .inl (cR, 60, .inr (.inr (.inr (.inr (fun j => rfN ra (s_cp σ j))))))) :: (b 4, .inl (cS, 200, .inr (.inr (.inr (.inr (fun j => if j < s_k σ then some (sb j) else none)))))) :: ((poolE ra sb ((uN ol c_ 0)) σ (s_n σ) (s_k σ)).set x (ra x, .inr (0, [.int (nI x), .int (nI (s_pr σ x / 10)), .int (nI (s_pr σ x % 10)), .int (nI (s_ev σ x)), .int (nI (s_ar σ x)), .int (nI (s_vl σ x)), va_rf (rfN ra ((c_ + 1)))])))) := hD
        rw [pool_set hz_x] at hP hD
        exact W.vret hx hb hr (fun u9 hu9 hW => ⟨⟨(hd, (uN ((uN ol c_ 0)) x ((c_ + 1)))), rfl, ⟨pre, [], hsp_, hgt_, Or.inl rfl, Or.inr ⟨pre2, x, hpre_, rfl, by rw [← ho2_]⟩⟩, by have h9 := hP; rw [← hu9] at h9; exact h9⟩, hS.F hu9⟩) hS.2.2 dX2_putInChain_77
    | cons z suf ih =>
      intro pre pv o hsp_ hgt_ hs_ hpv_ ls hl
      have ho_ : o = z + 1 := hs_.1
      subst ho_
      obtain ⟨hz_z, hz_zc⟩ := hm0 z (by rw [hsp_]; exact List.mem_append_right _ List.mem_cons_self)
      obtain ⟨hy_1, hy_2, hy_3, hy_4⟩ := i_row z hz_z
      have hRz := xRow hP hz_z
      have hl : lv_has ls 5 [(0, .ref x0), (1, .ref (ra c_)), (2, .int (nI (s_pr σ c_))), (3, va_rf (rfN ra pv)), (4, .ref (ra z))] := hl
      refine lv_aload hx hb dX2_putInChain_22 (lv_at hl 4 rfl) ?_
      refine lv_ifnull hx hb dX2_putInChain_24 ?_
      refine lv_aload hx hb dX2_putInChain_27 (lv_at hl 4 rfl) ?_
      refine va_get (D := dD) (ci := 0) (v := .int (nI (s_ev σ z))) (C := RX0) (T := TX0) (N := 7) hx hb hts hinX0 hown hK hRz 0 rfl rfl 3 (by decide) (hts (.fieldLink RX2 76 "FeatureStore$Row" "event" "I") (by decide +kernel)) (fun _ h9 => h9) rfl dX2_putInChain_29 ?_
      refine lv_aload_n hx hb dX2_putInChain_32 rfl (lv_at hl 1 rfl) ?_
      refine va_get (D := dD) (ci := 0) (v := .int (nI (s_ev σ c_))) (C := RX0) (T := TX0) (N := 7) hx hb hts hinX0 hown hK hR 0 rfl rfl 3 (by decide) (hts (.fieldLink RX2 76 "FeatureStore$Row" "event" "I") (by decide +kernel)) (fun _ h9 => h9) rfl dX2_putInChain_33 ?_
      refine nv_le (tgt := 52) hx hb dX2_putInChain_36 (by decide) (by omega) (by omega) (fun c_36 => ?_) (fun c_36 => ?_)
      · rcases hpv_ with ⟨hpre_, rfl, ho2_⟩ | ⟨pre2, x, hpre_, rfl, ho2_⟩
        · have hl : lv_has ls 5 [(0, .ref x0), (1, .ref (ra c_)), (2, .int (nI (s_pr σ c_))), (3, .null), (4, .ref (ra z))] := hl
          refine lv_aload_n hx hb dX2_putInChain_52 rfl (lv_at hl 1 rfl) ?_
          refine lv_aload hx hb dX2_putInChain_53 (lv_at hl 4 rfl) ?_
          refine va_put (D := dD) (ci := 0) (v := va_rf (rfN ra ((z + 1)))) (ty := .object "FeatureStore$Row") (C := RX0) (T := TX0) (N := 7) hx hb hts hinX0 tyX0 tyX0_ok nmX0 hown hK hP hD hS (c_ + 6) (pool_row hc_) rfl 6 (by decide) (hts (.fieldLink RX2 87 "FeatureStore$Row" "older" "LFeatureStore$Row;") (by decide +kernel)) (fun _ h9 => h9) rfl (by decide +kernel) nar_rf fit_rf (Nat.le_of_ble_eq_true rfl) dX2_putInChain_55 (fun H locs hP hD hS => ?_)
          have hP : va_P dD vwCl ((x0, .inr (2, [.int (nI (s_now σ)), .ref (b 0), .ref (b 1), .int (nI (s_n σ)), .ref (b 2), .ref (b 3), .int (nI (s_tk σ)), .ref (b 4), .int (nI (s_k σ))])) :: (b 0, .inl (cI, 6, .inl (fun j => nI (s_lt σ j)))) :: (b 1, .inl (cR, 200, .inr (.inr (.inr (.inr (fun j => if j < s_n σ then some (ra j) else none)))))) :: (b 2, .inl (cR, 60, .inr (.inr (.inr (.inr (fun j => rfN ra (hd j))))))) :: (b 3, .inl (cR, 60, .inr (.inr (.inr (.inr (fun j => rfN ra (s_cp σ j))))))) :: (b 4, .inl (cS, 200, .inr (.inr (.inr (.inr (fun j => if j < s_k σ then some (sb j) else none)))))) :: ((poolE ra sb ol σ (s_n σ) (s_k σ)).set c_ (ra c_, .inr (0, [.int (nI c_), .int (nI (s_pr σ c_ / 10)), .int (nI (s_pr σ c_ % 10)), .int (nI (s_ev σ c_)), .int (nI (s_ar σ c_)), .int (nI (s_vl σ c_)), va_rf (rfN ra ((z + 1)))])))) H := hP
          have hD : va_D A ((x0, .inr (2, [.int (nI (s_now σ)), .ref (b 0), .ref (b 1), .int (nI (s_n σ)), .ref (b 2), .ref (b 3), .int (nI (s_tk σ)), .ref (b 4), .int (nI (s_k σ))])) :: (b 0, .inl (cI, 6, .inl (fun j => nI (s_lt σ j)))) :: (b 1, .inl (cR, 200, .inr (.inr (.inr (.inr (fun j => if j < s_n σ then some (ra j) else none)))))) :: (b 2, .inl (cR, 60, .inr (.inr (.inr (.inr (fun j => rfN ra (hd j))))))) :: (b 3, .inl (cR, 60, .inr (.inr (.inr (.inr (fun j => rfN ra (s_cp σ j))))))) :: (b 4, .inl (cS, 200, .inr (.inr (.inr (.inr (fun j => if j < s_k σ then some (sb j) else none)))))) :: ((poolE ra sb ol σ (s_n σ) (s_k σ)).set c_ (ra c_, .inr (0, [.int (nI c_), .int (nI (s_pr σ c_ / 10)), .int (nI (s_pr σ c_ % 10)), .int (nI (s_ev σ c_)), .int (nI (s_ar σ c_)), .int (nI (s_vl σ c_)), va_rf (rfN ra ((z + 1)))])))) := hD
          rw [pool_set hc_] at hP hD
          refine lv_aload_nN hx hb dX2_putInChain_58 rfl (lv_at hl 3 rfl) ?_
          refine lv_ifnonnullN hx hb dX2_putInChain_59 ?_
          refine lv_aload_n hx hb dX2_putInChain_62 rfl (lv_at hl 0 rfl) ?_
          refine va_get (D := dD) (ci := 2) (v := .ref (b 2)) (C := RX2) (T := TX2) (N := 9) hx hb hts hinX2 hown hK hP 0 rfl rfl 4 (by decide) (hts (.fieldLink RX2 19 "FeatureStore" "latest" "[LFeatureStore$Row;") (by decide +kernel)) (fun _ h9 => h9) rfl dX2_putInChain_63 ?_
          refine lv_iload_n hx hb dX2_putInChain_66 rfl (lv_at hl 2 rfl) ?_
          refine lv_aload_n hx hb dX2_putInChain_67 rfl (lv_at hl 1 rfl) ?_
          refine nq_aast (q0 := 3) (t0 := 1) (qk := c_ + 6) (ci := 0) (r := (RX0, TX0, 7)) (fun j => rfN ra (hd j)) (fun j => rfN ra (uN (hd) (s_pr σ c_) (c_ + 1) j)) hx hb hK hP hD hS rfl rfl (pool_row hc_) rfl (by omega) (by decide) upQ dX2_putInChain_68 (fun H locs hP hD hS => ?_)
          have hP : va_P dD vwCl ((x0, .inr (2, [.int (nI (s_now σ)), .ref (b 0), .ref (b 1), .int (nI (s_n σ)), .ref (b 2), .ref (b 3), .int (nI (s_tk σ)), .ref (b 4), .int (nI (s_k σ))])) :: (b 0, .inl (cI, 6, .inl (fun j => nI (s_lt σ j)))) :: (b 1, .inl (cR, 200, .inr (.inr (.inr (.inr (fun j => if j < s_n σ then some (ra j) else none)))))) :: (b 2, .inl (cR, 60, .inr (.inr (.inr (.inr (fun j => rfN ra ((uN (hd) (s_pr σ c_) (c_ + 1)) j))))))) :: (b 3, .inl (cR, 60, .inr (.inr (.inr (.inr (fun j => rfN ra (s_cp σ j))))))) :: (b 4, .inl (cS, 200, .inr (.inr (.inr (.inr (fun j => if j < s_k σ then some (sb j) else none)))))) :: (poolE ra sb (uN ol c_ ((z + 1))) σ (s_n σ) (s_k σ))) H := hP
          have hD : va_D A ((x0, .inr (2, [.int (nI (s_now σ)), .ref (b 0), .ref (b 1), .int (nI (s_n σ)), .ref (b 2), .ref (b 3), .int (nI (s_tk σ)), .ref (b 4), .int (nI (s_k σ))])) :: (b 0, .inl (cI, 6, .inl (fun j => nI (s_lt σ j)))) :: (b 1, .inl (cR, 200, .inr (.inr (.inr (.inr (fun j => if j < s_n σ then some (ra j) else none)))))) :: (b 2, .inl (cR, 60, .inr (.inr (.inr (.inr (fun j => rfN ra ((uN (hd) (s_pr σ c_) (c_ + 1)) j))))))) :: (b 3, .inl (cR, 60, .inr (.inr (.inr (.inr (fun j => rfN ra (s_cp σ j))))))) :: (b 4, .inl (cS, 200, .inr (.inr (.inr (.inr (fun j => if j < s_k σ then some (sb j) else none)))))) :: (poolE ra sb (uN ol c_ ((z + 1))) σ (s_n σ) (s_k σ))) := hD
          refine lv_goto (tgt := 77) hx hb dX2_putInChain_69 (by decide) ?_
          exact W.vret hx hb hr (fun u9 hu9 hW => ⟨⟨(uN hd (s_pr σ c_) (c_ + 1), (uN ol c_ ((z + 1)))), rfl, ⟨pre, (z :: suf), hsp_, hgt_, Or.inr ⟨z, suf, rfl, by omega⟩, Or.inl ⟨hpre_, rfl, by rw [← ho2_]⟩⟩, by have h9 := hP; rw [← hu9] at h9; exact h9⟩, hS.F hu9⟩) hS.2.2 dX2_putInChain_77
        · have hl : lv_has ls 5 [(0, .ref x0), (1, .ref (ra c_)), (2, .int (nI (s_pr σ c_))), (3, .ref (ra x)), (4, .ref (ra z))] := hl
          obtain ⟨hz_x, hz_xc⟩ := hm0 x (by rw [hsp_, hpre_]; exact List.mem_append_left _ (List.mem_append_right _ List.mem_cons_self))
          refine lv_aload_n hx hb dX2_putInChain_52 rfl (lv_at hl 1 rfl) ?_
          refine lv_aload hx hb dX2_putInChain_53 (lv_at hl 4 rfl) ?_
          refine va_put (D := dD) (ci := 0) (v := va_rf (rfN ra ((z + 1)))) (ty := .object "FeatureStore$Row") (C := RX0) (T := TX0) (N := 7) hx hb hts hinX0 tyX0 tyX0_ok nmX0 hown hK hP hD hS (c_ + 6) (pool_row hc_) rfl 6 (by decide) (hts (.fieldLink RX2 87 "FeatureStore$Row" "older" "LFeatureStore$Row;") (by decide +kernel)) (fun _ h9 => h9) rfl (by decide +kernel) nar_rf fit_rf (Nat.le_of_ble_eq_true rfl) dX2_putInChain_55 (fun H locs hP hD hS => ?_)
          have hP : va_P dD vwCl ((x0, .inr (2, [.int (nI (s_now σ)), .ref (b 0), .ref (b 1), .int (nI (s_n σ)), .ref (b 2), .ref (b 3), .int (nI (s_tk σ)), .ref (b 4), .int (nI (s_k σ))])) :: (b 0, .inl (cI, 6, .inl (fun j => nI (s_lt σ j)))) :: (b 1, .inl (cR, 200, .inr (.inr (.inr (.inr (fun j => if j < s_n σ then some (ra j) else none)))))) :: (b 2, .inl (cR, 60, .inr (.inr (.inr (.inr (fun j => rfN ra (hd j))))))) :: (b 3, .inl (cR, 60, .inr (.inr (.inr (.inr (fun j => rfN ra (s_cp σ j))))))) :: (b 4, .inl (cS, 200, .inr (.inr (.inr (.inr (fun j => if j < s_k σ then some (sb j) else none)))))) :: ((poolE ra sb ol σ (s_n σ) (s_k σ)).set c_ (ra c_, .inr (0, [.int (nI c_), .int (nI (s_pr σ c_ / 10)), .int (nI (s_pr σ c_ % 10)), .int (nI (s_ev σ c_)), .int (nI (s_ar σ c_)), .int (nI (s_vl σ c_)), va_rf (rfN ra ((z + 1)))])))) H := hP
          have hD : va_D A ((x0, .inr (2, [.int (nI (s_now σ)), .ref (b 0), .ref (b 1), .int (nI (s_n σ)), .ref (b 2), .ref (b 3), .int (nI (s_tk σ)), .ref (b 4), .int (nI (s_k σ))])) :: (b 0, .inl (cI, 6, .inl (fun j => nI (s_lt σ j)))) :: (b 1, .inl (cR, 200, .inr (.inr (.inr (.inr (fun j => if j < s_n σ then some (ra j) else none)))))) :: (b 2, .inl (cR, 60, .inr (.inr (.inr (.inr (fun j => rfN ra (hd j))))))) :: (b 3, .inl (cR, 60, .inr (.inr (.inr (.inr (fun j => rfN ra (s_cp σ j))))))) :: (b 4, .inl (cS, 200, .inr (.inr (.inr (.inr (fun j => if j < s_k σ then some (sb j) else none)))))) :: ((poolE ra sb ol σ (s_n σ) (s_k σ)).set c_ (ra c_, .inr (0, [.int (nI c_), .int (nI (s_pr σ c_ / 10)), .int (nI (s_pr σ c_ % 10)), .int (nI (s_ev σ c_)), .int (nI (s_ar σ c_)), .int (nI (s_vl σ c_)), va_rf (rfN ra ((z + 1)))])))) := hD
          rw [pool_set hc_] at hP hD
          refine lv_aload_n hx hb dX2_putInChain_58 rfl (lv_at hl 3 rfl) ?_
          refine lv_ifnonnull (tgt := 72) hx hb dX2_putInChain_59 (by decide) ?_
          refine lv_aload_n hx hb dX2_putInChain_72 rfl (lv_at hl 3 rfl) ?_
          refine lv_aload_n hx hb dX2_putInChain_73 rfl (lv_at hl 1 rfl) ?_
          refine va_put (D := dD) (ci := 0) (v := va_rf (rfN ra ((c_ + 1)))) (ty := .object "FeatureStore$Row") (C := RX0) (T := TX0) (N := 7) hx hb hts hinX0 tyX0 tyX0_ok nmX0 hown hK hP hD hS (x + 6) (pool_row hz_x) rfl 6 (by decide) (hts (.fieldLink RX2 87 "FeatureStore$Row" "older" "LFeatureStore$Row;") (by decide +kernel)) (fun _ h9 => h9) rfl (by decide +kernel) nar_rf fit_rf (Nat.le_of_ble_eq_true rfl) dX2_putInChain_74 (fun H locs hP hD hS => ?_)
          have hP : va_P dD vwCl ((x0, .inr (2, [.int (nI (s_now σ)), .ref (b 0), .ref (b 1), .int (nI (s_n σ)), .ref (b 2), .ref (b 3), .int (nI (s_tk σ)), .ref (b 4), .int (nI (s_k σ))])) :: (b 0, .inl (cI, 6, .inl (fun j => nI (s_lt σ j)))) :: (b 1, .inl (cR, 200, .inr (.inr (.inr (.inr (fun j => if j < s_n σ then some (ra j) else none)))))) :: (b 2, .inl (cR, 60, .inr (.inr (.inr (.inr (fun j => rfN ra (hd j))))))) :: (b 3, .inl (cR, 60, .inr (.inr (.inr (.inr (fun j => rfN ra (s_cp σ j))))))) :: (b 4, .inl (cS, 200, .inr (.inr (.inr (.inr (fun j => if j < s_k σ then some (sb j) else none)))))) :: ((poolE ra sb ((uN ol c_ ((z + 1)))) σ (s_n σ) (s_k σ)).set x (ra x, .inr (0, [.int (nI x), .int (nI (s_pr σ x / 10)), .int (nI (s_pr σ x % 10)), .int (nI (s_ev σ x)), .int (nI (s_ar σ x)), .int (nI (s_vl σ x)), va_rf (rfN ra ((c_ + 1)))])))) H := hP
          have hD : va_D A ((x0, .inr (2, [.int (nI (s_now σ)), .ref (b 0), .ref (b 1), .int (nI (s_n σ)), .ref (b 2), .ref (b 3), .int (nI (s_tk σ)), .ref (b 4), .int (nI (s_k σ))])) :: (b 0, .inl (cI, 6, .inl (fun j => nI (s_lt σ j)))) :: (b 1, .inl (cR, 200, .inr (.inr (.inr (.inr (fun j => if j < s_n σ then some (ra j) else none)))))) :: (b 2, .inl (cR, 60, .inr (.inr (.inr (.inr (fun j => rfN ra (hd j))))))) :: (b 3, .inl (cR, 60, .inr (.inr (.inr (.inr (fun j => rfN ra (s_cp σ j))))))) :: (b 4, .inl (cS, 200, .inr (.inr (.inr (.inr (fun j => if j < s_k σ then some (sb j) else none)))))) :: ((poolE ra sb ((uN ol c_ ((z + 1)))) σ (s_n σ) (s_k σ)).set x (ra x, .inr (0, [.int (nI x), .int (nI (s_pr σ x / 10)), .int (nI (s_pr σ x % 10)), .int (nI (s_ev σ x)), .int (nI (s_ar σ x)), .int (nI (s_vl σ x)), va_rf (rfN ra ((c_ + 1)))])))) := hD
          rw [pool_set hz_x] at hP hD
          exact W.vret hx hb hr (fun u9 hu9 hW => ⟨⟨(hd, (uN ((uN ol c_ ((z + 1)))) x ((c_ + 1)))), rfl, ⟨pre, (z :: suf), hsp_, hgt_, Or.inr ⟨z, suf, rfl, by omega⟩, Or.inr ⟨pre2, x, hpre_, rfl, by rw [← ho2_]⟩⟩, by have h9 := hP; rw [← hu9] at h9; exact h9⟩, hS.F hu9⟩) hS.2.2 dX2_putInChain_77
      · refine lv_aload hx hb dX2_putInChain_39 (lv_at hl 4 rfl) ?_
        refine lv_astore_n (lv' := [(3, .ref (ra z)), (0, .ref x0), (1, .ref (ra c_)), (2, .int (nI (s_pr σ c_))), (4, .ref (ra z))]) hx hb dX2_putInChain_41 rfl hl (by decide) rfl (fun ls hl => ?_)
        refine lv_aload hx hb dX2_putInChain_42 (lv_at hl 4 rfl) ?_
        refine va_get (D := dD) (ci := 0) (v := va_rf (rfN ra (ol z))) (C := RX0) (T := TX0) (N := 7) hx hb hts hinX0 hown hK hRz 0 rfl rfl 6 (by decide) (hts (.fieldLink RX2 87 "FeatureStore$Row" "older" "LFeatureStore$Row;") (by decide +kernel)) (fun _ h9 => h9) rfl dX2_putInChain_44 ?_
        refine nq_astore (lv' := [(4, va_rf (rfN ra (ol z))), (3, .ref (ra z)), (0, .ref x0), (1, .ref (ra c_)), (2, .int (nI (s_pr σ c_)))]) hx hb dX2_putInChain_47 hl (by decide) rfl (fun ls hl => ?_)
        refine lv_goto (tgt := 22) hx hb dX2_putInChain_49 (by decide) ?_
        exact ih (pre ++ [z]) (z + 1) (ol z) (by rw [List.append_assoc]; exact hsp_) (fun y hy => by rcases List.mem_append.mp hy with hy | hy; exact hgt_ y hy; rw [List.mem_singleton.mp hy]; omega) hs_.2 (Or.inr ⟨pre, z, rfl, rfl, rfl⟩) ls (lv_sub hl [2, 3, 4, 1, 0] rfl)
  exact hlp l0 [] 0 (hd (s_pr σ c_)) rfl (fun y hy => absurd hy List.not_mem_nil) hl0 (Or.inl ⟨rfl, rfl, rfl⟩) ls (lv_sub hl [3, 4, 2, 1, 0] rfl)

set_option maxHeartbeats 4000000 in
set_option maxRecDepth 100000 in
theorem c_X2_arrive (l : Launch) (dD : va_G) (cI cR cS : ClassId) (lo : Nat) (hfl : l.stackTraces = false) (sz : Nat) (hlo : lo ≤ sz) (x0 : Nat) (b ra sb hd ol : Nat → Nat) (σ : St) (hI : sI σ) (hX : xI σ hd ol) (hJ : xJ σ hd ol) (f e v y : Int32) : vx_Met l yX2_arrive wsX2_arrive ({ frames := 8, cells := 5, slots := 31, locals := 125 }) (ePc dD cI cR cS lo [.ref x0, .int f, .int e, .int v, .int y] (fun H => H.size = sz ∧ va_P dD vwCl (xW cI cR cS x0 b ra sb hd ol σ) H ∧ va_D (fun q => lo ≤ q) (xW cI cR cS x0 b ra sb hd ol σ))) (va_Qi (fun (r : Int32) (u : St × (Nat → Nat) × (Nat → Nat) × (Nat → Nat)) => ((okP f e ∧ rg v 0 (s_now σ) ∧ rg y 0 100000) ∧ s_n σ < 200) ∧ u.1 = g_arrive σ (plN f e) (cl v) (cl y) ∧ xI u.1 u.2.2.1 u.2.2.2 ∧ xJ u.1 u.2.2.1 u.2.2.2 ∧ r = nI (s_n σ)) (fun u t => va_P dD vwCl (xW cI cR cS x0 b u.2.1 sb u.2.2.1 u.2.2.2 u.1) t.heap ∧ va_D (va_A (xW cI cR cS x0 b ra sb hd ol σ) sz) (xW cI cR cS x0 b u.2.1 sb u.2.2.1 u.2.2.2 u.1)) (va_A (xW cI cR cS x0 b ra sb hd ol σ) sz)) (eX (fun E => (E = nIAE ∧ ¬ (okP f e ∧ rg v 0 (s_now σ) ∧ rg y 0 100000)) ∨ (E = nISE ∧ (okP f e ∧ rg v 0 (s_now σ) ∧ rg y 0 100000) ∧ ¬ s_n σ < 200))) 5 31 (va_A (xW cI cR cS x0 b ra sb hd ol σ) sz) := by
  refine vx_ofW (cc := cX2_arrive) (maxL := 6) (ret := (some .int)) (by decide) rfl ?_
  intro p e_ s m args below meth c s₁ B hml hnt hv
  obtain ⟨rfl, hE, hsz, hP, hD0⟩ := hv
  have hx := B.exec
  have hb := B.bytes
  have hr := B.returns
  have hts := atoms_spec (ws := wsX2_arrive) B.pre
  have hown : s.vm.findClass RX2 = some m.cls := findClass_of_methodNamed B.named
  have hlocks := B.notSynchronized
  have hK := hE.1.1
  have hinX0 : ∀ w ∈ u_ws RX0 TX0 7, w ∈ wsX2_arrive := by decide +kernel
  have hinX2 : ∀ w ∈ u_ws RX2 TX2 9, w ∈ wsX2_arrive := by decide +kernel
  subst hsz
  have hD := hD0.self (sz := s.heap.size)
  have hAlo : ∀ q, va_A (xW cI cR cS x0 b ra sb hd ol σ) s.heap.size q → lo ≤ q := eA_lo hD0 hlo
  generalize hAe : va_A (xW cI cR cS x0 b ra sb hd ol σ) s.heap.size = A at hD hAlo ⊢
  have hA : ∀ q : Nat, s.heap.size ≤ q → A q := fun q h => by rw [← hAe]; exact Or.inr h
  have hS : va_S A s.heap s.heap [] := va_S.rf
  have hP : va_P dD vwCl (xW cI cR cS x0 b ra sb hd ol σ) s.heap := hP
  obtain ⟨i_now, i_n, i_tk, i_k, i_lt, i_row, i_cp, i_srv⟩ := id hI
  have hl := lv_entry ([.ref x0, .int f, .int e, .int v, .int y]) (n := 6) (Nat.le_of_ble_eq_true rfl)
  rw [lg_entry_eq]
  generalize (lg_sl ([.ref x0, .int f, .int e, .int v, .int y]) ++ List.replicate (6 - (lg_sl ([.ref x0, .int f, .int e, .int v, .int y])).length) Slot.unset).toArray = ls at hl ⊢
  have hl : lv_has ls 6 [(0, .ref x0), (1, .int f), (2, .int e), (3, .int v), (4, .int y)] := hl
  refine lv_iload_n hx hb dX2_arrive_0 rfl (lv_at hl 1 rfl) ?_
  refine lv_iload_n hx hb dX2_arrive_1 rfl (lv_at hl 2 rfl) ?_
  refine nx_callv (vx_runS (As := [.int f, .int e]) (rest := []) ⟨hx, hb, hml, hown, hts⟩ (c_X2_requirePair l dD cI cR cS lo hfl f e) (va_cwS 2 hts gX2_arrive_X2_requirePair rfl rfl rfl (by decide +kernel) ⟨Nat.le_of_ble_eq_true rfl, Nat.le_of_ble_eq_true rfl⟩) (ePreS hE va_S.rf trivial) rfl rfl hl.1 rfl (lv_room (Nat.le_of_ble_eq_true rfl)) dX2_arrive_2 ⟨Nat.le_of_ble_eq_true rfl, Nat.le_of_ble_eq_true rfl⟩) (fun E ce q9 H1 hX9 hz9 hk9 hc9 hv9 hf9 => vx_out (fun x hx => (hnt x hx).elim) hlocks hc9 hv9 hf9 (fun t9 ht9 _ => ⟨Or.inl ⟨hX9.1, fun h => hX9.2 h.1⟩, by rw [ht9]; exact hz9, fun q hq _ => by rw [ht9]; exact hk9 q hq⟩) (fun z hz => absurd hz List.not_mem_nil) (by decide) (by decide)) (fun hr_2 => ?_)
  refine lv_iload_n hx hb dX2_arrive_5 rfl (lv_at hl 3 rfl) ?_
  refine lv_iconst (v := nI 0) hx hb dX2_arrive_6 (by decide +kernel) ?_
  refine lv_aload_n hx hb dX2_arrive_7 rfl (lv_at hl 0 rfl) ?_
  refine va_get (D := dD) (ci := 2) (v := .int (nI (s_now σ))) (C := RX2) (T := TX2) (N := 9) hx hb hts hinX2 hown hK hP 0 rfl rfl 0 (by decide) (hts (.fieldLink RX2 35 "FeatureStore" "now" "I") (by decide +kernel)) (fun _ h9 => h9) rfl dX2_arrive_8 ?_
  refine nx_callv (vx_runS (As := [.int v, .int (nI 0), .int (nI (s_now σ))]) (rest := []) ⟨hx, hb, hml, hown, hts⟩ (c_X2_requireRange l dD cI cR cS lo hfl v (nI 0) (nI (s_now σ))) (va_cwS 3 hts gX2_arrive_X2_requireRange rfl rfl rfl (by decide +kernel) ⟨Nat.le_of_ble_eq_true rfl, Nat.le_of_ble_eq_true rfl⟩) (ePreS hE va_S.rf trivial) rfl rfl hl.1 rfl (lv_room (Nat.le_of_ble_eq_true rfl)) dX2_arrive_11 ⟨Nat.le_of_ble_eq_true rfl, Nat.le_of_ble_eq_true rfl⟩) (fun E ce q9 H1 hX9 hz9 hk9 hc9 hv9 hf9 => vx_out (fun x hx => (hnt x hx).elim) hlocks hc9 hv9 hf9 (fun t9 ht9 _ => ⟨Or.inl ⟨hX9.1, fun h => hX9.2 h.2.1⟩, by rw [ht9]; exact hz9, fun q hq _ => by rw [ht9]; exact hk9 q hq⟩) (fun z hz => absurd hz List.not_mem_nil) (by decide) (by decide)) (fun hr_11 => ?_)
  refine lv_iload hx hb dX2_arrive_14 (lv_at hl 4 rfl) ?_
  refine lv_iconst (v := nI 0) hx hb dX2_arrive_16 (by decide +kernel) ?_
  refine lv_ldc (v := nI 100000) hx hb hown (hts (.constant RX2 43 100000) (by decide +kernel)) dX2_arrive_17 ?_
  refine nx_callv (vx_runS (As := [.int y, .int (nI 0), .int (nI 100000)]) (rest := []) ⟨hx, hb, hml, hown, hts⟩ (c_X2_requireRange l dD cI cR cS lo hfl y (nI 0) (nI 100000)) (va_cwS 3 hts gX2_arrive_X2_requireRange rfl rfl rfl (by decide +kernel) ⟨Nat.le_of_ble_eq_true rfl, Nat.le_of_ble_eq_true rfl⟩) (ePreS hE va_S.rf trivial) rfl rfl hl.1 rfl (lv_room (Nat.le_of_ble_eq_true rfl)) dX2_arrive_19 ⟨Nat.le_of_ble_eq_true rfl, Nat.le_of_ble_eq_true rfl⟩) (fun E ce q9 H1 hX9 hz9 hk9 hc9 hv9 hf9 => vx_out (fun x hx => (hnt x hx).elim) hlocks hc9 hv9 hf9 (fun t9 ht9 _ => ⟨Or.inl ⟨hX9.1, fun h => hX9.2 h.2.2⟩, by rw [ht9]; exact hz9, fun q hq _ => by rw [ht9]; exact hk9 q hq⟩) (fun z hz => absurd hz List.not_mem_nil) (by decide) (by decide)) (fun hr_19 => ?_)
  refine lv_aload_n hx hb dX2_arrive_22 rfl (lv_at hl 0 rfl) ?_
  refine va_get (D := dD) (ci := 2) (v := .int (nI (s_n σ))) (C := RX2) (T := TX2) (N := 9) hx hb hts hinX2 hown hK hP 0 rfl rfl 3 (by decide) (hts (.fieldLink RX2 44 "FeatureStore" "rowCount" "I") (by decide +kernel)) (fun _ h9 => h9) rfl dX2_arrive_23 ?_
  refine lv_sipush (v := nI 200) hx hb dX2_arrive_26 (by decide +kernel) ?_
  refine nv_lt (tgt := 42) hx hb dX2_arrive_29 (by decide) (by omega) (by omega) (fun c_29 => ?_) (fun c_29 => ?_)
  · obtain ⟨fn, hfn1, hfn2, rfl⟩ := rg_of (by decide) (by decide) (hr_2.1)
    obtain ⟨en, hen1, hen2, rfl⟩ := rg_of (by decide) (by decide) (hr_2.2)
    obtain ⟨vn, hvn1, hvn2, rfl⟩ := rg_of (by decide) (by omega) (hr_11)
    obtain ⟨yn, hyn1, hyn2, rfl⟩ := rg_of (by decide) (by decide) (hr_19)
    refine va_new (ci := 0) (fs := [.int 0, .int 0, .int 0, .int 0, .int 0, .int 0, .null]) (C := RX0) (T := TX0) (N := 7) hx hb hts hinX0 tyX0 tyX0_ok hown (hts (.classLink RX2 13 RX0) (by decide +kernel)) (hts (.instantiable RX0 7) (by decide +kernel)) (hts (.initialized RX0) (by decide +kernel)) hK hP hD hS hA rfl (fun j hj => by rcases (show j = 0 ∨ j = 1 ∨ j = 2 ∨ j = 3 ∨ j = 4 ∨ j = 5 ∨ j = 6 by omega) with rfl | rfl | rfl | rfl | rfl | rfl | rfl <;> rfl) (Nat.le_of_ble_eq_true rfl) (Nat.le_of_ble_eq_true rfl) dX2_arrive_42 (fun q5 H hP hD hS => ?_)
    have hP : va_P dD vwCl ((xW cI cR cS x0 b ra sb hd ol σ) ++ [(q5, .inr (0, [.int 0, .int 0, .int 0, .int 0, .int 0, .int 0, .null]))]) H := hP
    have hD : va_D A ((xW cI cR cS x0 b ra sb hd ol σ) ++ [(q5, .inr (0, [.int 0, .int 0, .int 0, .int 0, .int 0, .int 0, .null]))]) := hD
    have hAH : ∀ q : Nat, H.size ≤ q → A q := fun q h => hA q (Nat.le_trans hS.1 h)
    have hFc := fr_freeR (w1 := [(q5, .inr (0, [.int 0, .int 0, .int 0, .int 0, .int 0, .int 0, .null]))]) hD hAH
    refine lv_dup hx hb dX2_arrive_45 rfl ?_
    refine lv_aload_n hx hb dX2_arrive_46 rfl (lv_at hl 0 rfl) ?_
    refine va_get (D := dD) (ci := 2) (v := .int (nI (s_n σ))) (C := RX2) (T := TX2) (N := 9) hx hb hts hinX2 hown hK hP 0 rfl rfl 3 (by decide) (hts (.fieldLink RX2 44 "FeatureStore" "rowCount" "I") (by decide +kernel)) (fun _ h9 => h9) rfl dX2_arrive_47 ?_
    refine lv_iload_n hx hb dX2_arrive_50 rfl (lv_at hl 1 rfl) ?_
    refine lv_iload_n hx hb dX2_arrive_51 rfl (lv_at hl 2 rfl) ?_
    refine lv_iload_n hx hb dX2_arrive_52 rfl (lv_at hl 3 rfl) ?_
    refine lv_aload_n hx hb dX2_arrive_53 rfl (lv_at hl 0 rfl) ?_
    refine va_get (D := dD) (ci := 2) (v := .int (nI (s_now σ))) (C := RX2) (T := TX2) (N := 9) hx hb hts hinX2 hown hK hP 0 rfl rfl 0 (by decide) (hts (.fieldLink RX2 35 "FeatureStore" "now" "I") (by decide +kernel)) (fun _ h9 => h9) rfl dX2_arrive_54 ?_
    refine lv_iload hx hb dX2_arrive_57 (lv_at hl 4 rfl) ?_
    refine va_callv (va_runI (As := [.int (nI (s_n σ)), .int (nI fn), .int (nI en), .int (nI vn), .int (nI (s_now σ)), .int (nI yn)]) (rest := [.ref q5]) ⟨hx, hb, hml, hown, hts⟩ (c_X0_init l dD cI cR cS lo H.size q5 (nI (s_n σ)) (nI fn) (nI en) (nI vn) (nI (s_now σ)) (nI yn)) (cwI 6 hts gX2_arrive_X0_init rfl rfl rfl (hts (.initialized RX0) (by decide +kernel)) (hts (.methodLink RX2 54 yX0_init) (by decide +kernel)) (hts (.instanceMethod yX0_init) (by decide +kernel)) rfl (by decide +kernel) ⟨Nat.le_of_ble_eq_true rfl, Nat.le_of_ble_eq_true rfl⟩) (ePreS hE (hS.mono hAlo) ⟨rfl, vP_app2 hP, vD_mono (vD_app2 hD) (fun _ _ => trivial)⟩) rfl rfl hl.1 rfl (lv_room (Nat.le_of_ble_eq_true rfl)) dX2_arrive_59 ⟨Nat.le_of_ble_eq_true rfl, Nat.le_of_ble_eq_true rfl⟩) hS (fun q _ h => hFc q h) hFc (fun u_ t_ H1 locs ht_ hvm_ hw_ hB_ hz_ hk_ hS => ?_)
    obtain ⟨hP, hD⟩ := fr_joinR (w1' := [(q5, .inr (0, [.int (nI (s_n σ)), .int (nI fn), .int (nI en), .int (nI vn), .int (nI (s_now σ)), .int (nI yn), .null]))]) hP hD hAH hk_ (by rw [← ht_]; exact hB_) (va_D_fst (vD_app2 hD).self rfl)
    have hAH : ∀ q : Nat, H1.size ≤ q → A q := fun q h => hA q (Nat.le_trans hS.1 h)
    have hPn := vP_perm (xNew (by omega) (by omega) hJ) hP
    have hDn := vD_perm (xNew (by omega) (by omega) hJ) hD
    obtain ⟨ra', hra⟩ : ∃ z, z = uN ra (s_n σ) q5 := ⟨_, rfl⟩
    rw [← hra] at hPn hDn
    have hq5 : ra' (s_n σ) = q5 := by rw [hra, uN_s]
    clear hFc
    subst hq5
    have hP := hPn
    have hD := hDn
    refine lv_astore (lv' := [(5, .ref (ra' (s_n σ))), (0, .ref x0), (1, .int (nI fn)), (2, .int (nI en)), (3, .int (nI vn)), (4, .int (nI yn))]) hx hb dX2_arrive_62 hl (by decide) rfl (fun ls hl => ?_)
    refine lv_aload_n hx hb dX2_arrive_64 rfl (lv_at hl 1 rfl) ?_
    refine va_get (D := dD) (ci := 2) (v := .ref (b 1)) (C := RX2) (T := TX2) (N := 9) hx hb hts hinX2 hown hK hP 0 rfl rfl 2 (by decide) (hts (.fieldLink RX2 15 "FeatureStore" "rows" "[LFeatureStore$Row;") (by decide +kernel)) (fun _ h9 => h9) rfl dX2_arrive_65 ?_
    refine lv_aload_n hx hb dX2_arrive_68 rfl (lv_at hl 1 rfl) ?_
    refine va_get (D := dD) (ci := 2) (v := .int (nI (s_n σ))) (C := RX2) (T := TX2) (N := 9) hx hb hts hinX2 hown hK hP 0 rfl rfl 3 (by decide) (hts (.fieldLink RX2 44 "FeatureStore" "rowCount" "I") (by decide +kernel)) (fun _ h9 => h9) rfl dX2_arrive_69 ?_
    refine lv_aload hx hb dX2_arrive_72 (lv_at hl 0 rfl) ?_
    refine nq_aast (q0 := 2) (t0 := 1) (qk := s_n σ + 6) (ci := 0) (r := (RX0, TX0, 7)) (fun j => if j < s_n σ then some (ra' j) else none) (fun j => if j < s_n σ + 1 then some (ra' j) else none) hx hb hK hP hD hS rfl rfl (pool_row (Nat.lt_succ_self _)) rfl (by omega) (by decide) upP dX2_arrive_74 (fun H locs hP hD hS => ?_)
    have hP : va_P dD vwCl ((x0, .inr (2, [.int (nI (s_now σ)), .ref (b 0), .ref (b 1), .int (nI (s_n σ)), .ref (b 2), .ref (b 3), .int (nI (s_tk σ)), .ref (b 4), .int (nI (s_k σ))])) :: (b 0, .inl (cI, 6, .inl (fun j => nI (s_lt σ j)))) :: (b 1, .inl (cR, 200, .inr (.inr (.inr (.inr (fun j => if j < s_n σ + 1 then some ((ra') j) else none)))))) :: (b 2, .inl (cR, 60, .inr (.inr (.inr (.inr (fun j => rfN (ra') (hd j))))))) :: (b 3, .inl (cR, 60, .inr (.inr (.inr (.inr (fun j => rfN (ra') (s_cp σ j))))))) :: (b 4, .inl (cS, 200, .inr (.inr (.inr (.inr (fun j => if j < s_k σ then some (sb j) else none)))))) :: (poolE ra' sb (uN ol (s_n σ) 0) (g_arrive σ (10 * fn + en) vn yn) (s_n σ + 1) (s_k σ))) H := hP
    have hD : va_D A ((x0, .inr (2, [.int (nI (s_now σ)), .ref (b 0), .ref (b 1), .int (nI (s_n σ)), .ref (b 2), .ref (b 3), .int (nI (s_tk σ)), .ref (b 4), .int (nI (s_k σ))])) :: (b 0, .inl (cI, 6, .inl (fun j => nI (s_lt σ j)))) :: (b 1, .inl (cR, 200, .inr (.inr (.inr (.inr (fun j => if j < s_n σ + 1 then some ((ra') j) else none)))))) :: (b 2, .inl (cR, 60, .inr (.inr (.inr (.inr (fun j => rfN (ra') (hd j))))))) :: (b 3, .inl (cR, 60, .inr (.inr (.inr (.inr (fun j => rfN (ra') (s_cp σ j))))))) :: (b 4, .inl (cS, 200, .inr (.inr (.inr (.inr (fun j => if j < s_k σ then some (sb j) else none)))))) :: (poolE ra' sb (uN ol (s_n σ) 0) (g_arrive σ (10 * fn + en) vn yn) (s_n σ + 1) (s_k σ))) := hD
    refine lv_aload_n hx hb dX2_arrive_75 rfl (lv_at hl 1 rfl) ?_
    refine lv_dup hx hb dX2_arrive_76 rfl ?_
    refine va_get (D := dD) (ci := 2) (v := .int (nI (s_n σ))) (C := RX2) (T := TX2) (N := 9) hx hb hts hinX2 hown hK hP 0 rfl rfl 3 (by decide) (hts (.fieldLink RX2 44 "FeatureStore" "rowCount" "I") (by decide +kernel)) (fun _ h9 => h9) rfl dX2_arrive_77 ?_
    refine lv_iconst (v := nI 1) hx hb dX2_arrive_80 (by decide +kernel) ?_
    refine nv_iadd hx hb dX2_arrive_81 ?_
    refine va_put (D := dD) (ci := 2) (v := .int (nI ((s_n σ) + 1))) (ty := .int) (C := RX2) (T := TX2) (N := 9) hx hb hts hinX2 tyX2 tyX2_ok nmX2 hown hK hP hD hS 0 rfl rfl 3 (by decide) (hts (.fieldLink RX2 44 "FeatureStore" "rowCount" "I") (by decide +kernel)) (fun _ h9 => h9) rfl (by decide +kernel) rfl rfl (Nat.le_of_ble_eq_true rfl) dX2_arrive_82 (fun H locs hP hD hS => ?_)
    have hP : va_P dD vwCl ((x0, .inr (2, [.int (nI (s_now σ)), .ref (b 0), .ref (b 1), .int (nI ((s_n σ) + 1)), .ref (b 2), .ref (b 3), .int (nI (s_tk σ)), .ref (b 4), .int (nI (s_k σ))])) :: (b 0, .inl (cI, 6, .inl (fun j => nI (s_lt σ j)))) :: (b 1, .inl (cR, 200, .inr (.inr (.inr (.inr (fun j => if j < s_n σ + 1 then some ((ra') j) else none)))))) :: (b 2, .inl (cR, 60, .inr (.inr (.inr (.inr (fun j => rfN (ra') (hd j))))))) :: (b 3, .inl (cR, 60, .inr (.inr (.inr (.inr (fun j => rfN (ra') (s_cp σ j))))))) :: (b 4, .inl (cS, 200, .inr (.inr (.inr (.inr (fun j => if j < s_k σ then some (sb j) else none)))))) :: (poolE ra' sb (uN ol (s_n σ) 0) (g_arrive σ (10 * fn + en) vn yn) (s_n σ + 1) (s_k σ))) H := hP
    have hD : va_D A ((x0, .inr (2, [.int (nI (s_now σ)), .ref (b 0), .ref (b 1), .int (nI ((s_n σ) + 1)), .ref (b 2), .ref (b 3), .int (nI (s_tk σ)), .ref (b 4), .int (nI (s_k σ))])) :: (b 0, .inl (cI, 6, .inl (fun j => nI (s_lt σ j)))) :: (b 1, .inl (cR, 200, .inr (.inr (.inr (.inr (fun j => if j < s_n σ + 1 then some ((ra') j) else none)))))) :: (b 2, .inl (cR, 60, .inr (.inr (.inr (.inr (fun j => rfN (ra') (hd j))))))) :: (b 3, .inl (cR, 60, .inr (.inr (.inr (.inr (fun j => rfN (ra') (s_cp σ j))))))) :: (b 4, .inl (cS, 200, .inr (.inr (.inr (.inr (fun j => if j < s_k σ then some (sb j) else none)))))) :: (poolE ra' sb (uN ol (s_n σ) 0) (g_arrive σ (10 * fn + en) vn yn) (s_n σ + 1) (s_k σ))) := hD
    refine lv_aload_n hx hb dX2_arrive_85 rfl (lv_at hl 1 rfl) ?_
    refine lv_aload hx hb dX2_arrive_86 (lv_at hl 0 rfl) ?_
    have hP : va_P dD vwCl (xW cI cR cS x0 b ra' sb hd (uN ol (s_n σ) 0) (g_arrive σ (10 * fn + en) vn yn)) H := hP
    have hD : va_D A (xW cI cR cS x0 b ra' sb hd (uN ol (s_n σ) 0) (g_arrive σ (10 * fn + en) vn yn)) := hD
    have hAH : ∀ q : Nat, H.size ≤ q → A q := fun q h => hA q (Nat.le_trans hS.1 h)
    have hFc := fr_free (w2 := []) (by rw [List.append_nil]; exact hD) hAH
    have hI' : sI (g_arrive σ (10 * fn + en) vn yn) := sI_arrive hI (by omega) (by omega) (by omega) (by omega)
    have hq_ : s_pr (g_arrive σ (10 * fn + en) vn yn) (s_n σ) = 10 * fn + en := by rw [ga_pr, uN_s]
    have hl0 : seg (uN ol (s_n σ) 0) (hd (s_pr (g_arrive σ (10 * fn + en) vn yn) (s_n σ))) (chn σ (10 * fn + en) (s_n σ)) := by
      rw [hq_]
      exact seg_congr (fun y hy => uN_n (by have := (mem_chn.mp hy).1; omega)) (hX _ (by omega))
    have hm0 : ∀ y ∈ chn σ (10 * fn + en) (s_n σ), y < s_n (g_arrive σ (10 * fn + en) vn yn) ∧ y ≠ s_n σ := fun y hy => by have := (mem_chn.mp hy).1; rw [ga_n]; omega
    refine va_callv (va_runV (As := [.ref (ra' (s_n σ))]) (rest := []) ⟨hx, hb, hml, hown, hts⟩ (c_X2_putInChain l dD cI cR cS lo H.size (Nat.le_trans hlo hS.1) x0 b ra' sb hd (uN ol (s_n σ) 0) (g_arrive σ (10 * fn + en) vn yn) hI' (s_n σ) (Nat.lt_succ_self _) _ hl0 hm0) (cwV 1 hts gX2_arrive_X2_putInChain rfl rfl rfl (by decide +kernel) ⟨Nat.le_of_ble_eq_true rfl, Nat.le_of_ble_eq_true rfl⟩) (ePreV hE (hS.mono hAlo) hP (k := 0) rfl rfl ⟨rfl, hP, vD_mono hD hAlo⟩) rfl rfl hl.1 rfl (lv_room (Nat.le_of_ble_eq_true rfl)) dX2_arrive_88 ⟨Nat.le_of_ble_eq_true rfl, Nat.le_of_ble_eq_true rfl⟩) hS (fun q _ h => hFc q h) hFc (fun u_ t_ H1 locs ht_ hvm_ hp_ hB_ hz_ hk_ hS => ?_)
    obtain ⟨hd', ol'⟩ := u_
    have hP : va_P dD vwCl (xW cI cR cS x0 b ra' sb hd' ol' (g_arrive σ (10 * fn + en) vn yn)) H1 := by rw [← ht_]; exact hB_
    have hD : va_D A (xW cI cR cS x0 b ra' sb hd' ol' (g_arrive σ (10 * fn + en) vn yn)) := xD_to hD rfl rfl
    rw [hq_] at hp_
    have hRn := xRow (i := s_n σ) hP (Nat.lt_succ_self _)
    refine lv_aload hx hb dX2_arrive_91 (lv_at hl 0 rfl) ?_
    refine va_get (D := dD) (ci := 0) (v := .int (nI (s_n σ))) (C := RX0) (T := TX0) (N := 7) hx hb hts hinX0 hown hK hRn 0 rfl rfl 0 (by decide) (hts (.fieldLink RX2 61 "FeatureStore$Row" "number" "I") (by decide +kernel)) (fun _ h9 => h9) rfl dX2_arrive_93 ?_
    exact vx_ret (W.widen (k := 5) (n := 31) (by decide) (by decide) (W.iret (v := nI (s_n σ)) hx hb hr (fun u9 hu9 hW => ⟨⟨nI (s_n σ), ((g_arrive σ (10 * fn + en) vn yn), ra', hd', ol'), rfl, ⟨⟨⟨hr_2, hr_11, hr_19⟩, by omega⟩, by rw [plN, cl_nI (by omega), cl_nI (by omega), cl_nI (by omega), cl_nI (by omega)], xI_arrive (by omega) hX hp_, xJ_arrive hJ hp_, rfl⟩, by have h9 := hP; rw [← hu9] at h9; exact ⟨h9, hAe ▸ hD⟩⟩, hS.F hu9⟩) hS.2.2 dX2_arrive_96))
  · exact nx_throw hx hb hfl hown hml hnt hlocks hts (by decide +kernel) (by decide +kernel) bad_ise ot_ise hE hE.1.2.1 hl dX2_arrive_32 dX2_arrive_35 dX2_arrive_36 dX2_arrive_38 dX2_arrive_41 (Nat.le_of_ble_eq_true rfl) (Nat.le_of_ble_eq_true rfl) (Nat.le_of_ble_eq_true rfl) (Nat.le_of_ble_eq_true rfl) (Or.inr ⟨rfl, ⟨hr_2, hr_11, hr_19⟩, by omega⟩) (by decide) (by decide)

set_option maxHeartbeats 4000000 in
set_option maxRecDepth 100000 in
theorem c_X2_serve (l : Launch) (dD : va_G) (cI cR cS : ClassId) (lo : Nat) (hfl : l.stackTraces = false) (sz : Nat) (hlo : lo ≤ sz) (x0 : Nat) (b ra sb hd ol : Nat → Nat) (σ : St) (hI : sI σ) (f e : Int32) : vx_Met l yX2_serve wsX2_serve ({ frames := 8, cells := 3, slots := 18, locals := 125 }) (ePc dD cI cR cS lo [.ref x0, .int f, .int e] (fun H => H.size = sz ∧ va_P dD vwCl (xW cI cR cS x0 b ra sb hd ol σ) H ∧ va_D (fun q => lo ≤ q) (xW cI cR cS x0 b ra sb hd ol σ))) (va_Qi (fun (r : Int32) (u : St × (Nat → Nat)) => (okP f e ∧ s_k σ < 200) ∧ u.1 = g_serve σ (plN f e) ∧ r = eN (q_fr σ (s_cp σ (plN f e)) (s_now σ))) (fun u t => va_P dD vwCl (xW cI cR cS x0 b ra u.2 hd ol u.1) t.heap ∧ va_D (va_A (xW cI cR cS x0 b ra sb hd ol σ) sz) (xW cI cR cS x0 b ra u.2 hd ol u.1)) (va_A (xW cI cR cS x0 b ra sb hd ol σ) sz)) (eX (fun E => (E = nIAE ∧ ¬ okP f e) ∨ (E = nISE ∧ okP f e ∧ ¬ s_k σ < 200))) 3 18 (va_A (xW cI cR cS x0 b ra sb hd ol σ) sz) := by
  refine vx_ofW (cc := cX2_serve) (maxL := 4) (ret := (some .int)) (by decide) rfl ?_
  intro p e_ s m args below meth c s₁ B hml hnt hv
  obtain ⟨rfl, hE, hsz, hP, hD0⟩ := hv
  have hx := B.exec
  have hb := B.bytes
  have hr := B.returns
  have hts := atoms_spec (ws := wsX2_serve) B.pre
  have hown : s.vm.findClass RX2 = some m.cls := findClass_of_methodNamed B.named
  have hlocks := B.notSynchronized
  have hK := hE.1.1
  have hinX1 : ∀ w ∈ u_ws RX1 TX1 4, w ∈ wsX2_serve := by decide +kernel
  have hinX2 : ∀ w ∈ u_ws RX2 TX2 9, w ∈ wsX2_serve := by decide +kernel
  subst hsz
  have hD := hD0.self (sz := s.heap.size)
  have hAlo : ∀ q, va_A (xW cI cR cS x0 b ra sb hd ol σ) s.heap.size q → lo ≤ q := eA_lo hD0 hlo
  generalize hAe : va_A (xW cI cR cS x0 b ra sb hd ol σ) s.heap.size = A at hD hAlo ⊢
  have hA : ∀ q : Nat, s.heap.size ≤ q → A q := fun q h => by rw [← hAe]; exact Or.inr h
  have hS : va_S A s.heap s.heap [] := va_S.rf
  have hP : va_P dD vwCl (xW cI cR cS x0 b ra sb hd ol σ) s.heap := hP
  obtain ⟨i_now, i_n, i_tk, i_k, i_lt, i_row, i_cp, i_srv⟩ := id hI
  have hl := lv_entry ([.ref x0, .int f, .int e]) (n := 4) (Nat.le_of_ble_eq_true rfl)
  rw [lg_entry_eq]
  generalize (lg_sl ([.ref x0, .int f, .int e]) ++ List.replicate (4 - (lg_sl ([.ref x0, .int f, .int e])).length) Slot.unset).toArray = ls at hl ⊢
  have hl : lv_has ls 4 [(0, .ref x0), (1, .int f), (2, .int e)] := hl
  refine lv_iload_n hx hb dX2_serve_0 rfl (lv_at hl 1 rfl) ?_
  refine lv_iload_n hx hb dX2_serve_1 rfl (lv_at hl 2 rfl) ?_
  refine nx_callv (vx_runS (As := [.int f, .int e]) (rest := []) ⟨hx, hb, hml, hown, hts⟩ (c_X2_requirePair l dD cI cR cS lo hfl f e) (va_cwS 2 hts gX2_serve_X2_requirePair rfl rfl rfl (by decide +kernel) ⟨Nat.le_of_ble_eq_true rfl, Nat.le_of_ble_eq_true rfl⟩) (ePreS hE va_S.rf trivial) rfl rfl hl.1 rfl (lv_room (Nat.le_of_ble_eq_true rfl)) dX2_serve_2 ⟨Nat.le_of_ble_eq_true rfl, Nat.le_of_ble_eq_true rfl⟩) (fun E ce q9 H1 hX9 hz9 hk9 hc9 hv9 hf9 => vx_out (fun x hx => (hnt x hx).elim) hlocks hc9 hv9 hf9 (fun t9 ht9 _ => ⟨Or.inl ⟨hX9.1, hX9.2⟩, by rw [ht9]; exact hz9, fun q hq _ => by rw [ht9]; exact hk9 q hq⟩) (fun z hz => absurd hz List.not_mem_nil) (by decide) (by decide)) (fun hr_2 => ?_)
  refine lv_aload_n hx hb dX2_serve_5 rfl (lv_at hl 0 rfl) ?_
  refine va_get (D := dD) (ci := 2) (v := .int (nI (s_k σ))) (C := RX2) (T := TX2) (N := 9) hx hb hts hinX2 hown hK hP 0 rfl rfl 8 (by decide) (hts (.fieldLink RX2 114 "FeatureStore" "servingCount" "I") (by decide +kernel)) (fun _ h9 => h9) rfl dX2_serve_6 ?_
  refine lv_sipush (v := nI 200) hx hb dX2_serve_9 (by decide +kernel) ?_
  refine nv_lt (tgt := 25) hx hb dX2_serve_12 (by decide) (by omega) (by omega) (fun c_12 => ?_) (fun c_12 => ?_)
  · obtain ⟨fn, hfn1, hfn2, rfl⟩ := rg_of (by decide) (by decide) (hr_2.1)
    obtain ⟨en, hen1, hen2, rfl⟩ := rg_of (by decide) (by decide) (hr_2.2)
    refine lv_aload_n hx hb dX2_serve_25 rfl (lv_at hl 0 rfl) ?_
    refine lv_iload_n hx hb dX2_serve_26 rfl (lv_at hl 1 rfl) ?_
    refine lv_iload_n hx hb dX2_serve_27 rfl (lv_at hl 2 rfl) ?_
    refine vp_callSi (va_Run.run (va_runV (As := [.int (nI fn), .int (nI en)]) (rest := []) ⟨hx, hb, hml, hown, hts⟩ (c_X2_tell l dD cI cR cS lo x0 b ra sb hd ol σ hI (fn) (en) (by omega) (by omega)) (cwV 2 hts gX2_serve_X2_tell rfl rfl rfl (by decide +kernel) ⟨Nat.le_of_ble_eq_true rfl, Nat.le_of_ble_eq_true rfl⟩) (ePreV hE va_S.rf hP (k := 0) rfl rfl hP) rfl rfl hl.1 rfl (lv_room (Nat.le_of_ble_eq_true rfl)) dX2_serve_28 ⟨Nat.le_of_ble_eq_true rfl, Nat.le_of_ble_eq_true rfl⟩)) (fun r_28 hr_28 => ?_)
    subst hr_28
    refine lv_istore_n (lv' := [(3, .int (eN (q_fr σ (s_cp σ (10 * fn + en)) (s_now σ)))), (0, .ref x0), (1, .int (nI fn)), (2, .int (nI en))]) hx hb dX2_serve_31 rfl hl (by decide) rfl (fun ls hl => ?_)
    refine lv_aload_n hx hb dX2_serve_32 rfl (lv_at hl 1 rfl) ?_
    refine va_get (D := dD) (ci := 2) (v := .ref (b 4)) (C := RX2) (T := TX2) (N := 9) hx hb hts hinX2 hown hK hP 0 rfl rfl 7 (by decide) (hts (.fieldLink RX2 27 "FeatureStore" "servings" "[LFeatureStore$Serving;") (by decide +kernel)) (fun _ h9 => h9) rfl dX2_serve_33 ?_
    refine lv_aload_n hx hb dX2_serve_36 rfl (lv_at hl 1 rfl) ?_
    refine va_get (D := dD) (ci := 2) (v := .int (nI (s_k σ))) (C := RX2) (T := TX2) (N := 9) hx hb hts hinX2 hown hK hP 0 rfl rfl 8 (by decide) (hts (.fieldLink RX2 114 "FeatureStore" "servingCount" "I") (by decide +kernel)) (fun _ h9 => h9) rfl dX2_serve_37 ?_
    refine va_new (ci := 1) (fs := [.int 0, .int 0, .int 0, .int 0]) (C := RX1) (T := TX1) (N := 4) hx hb hts hinX1 tyX1 tyX1_ok hown (hts (.classLink RX2 25 RX1) (by decide +kernel)) (hts (.instantiable RX1 4) (by decide +kernel)) (hts (.initialized RX1) (by decide +kernel)) hK hP hD hS hA rfl (fun j hj => by rcases (show j = 0 ∨ j = 1 ∨ j = 2 ∨ j = 3 by omega) with rfl | rfl | rfl | rfl <;> rfl) (Nat.le_of_ble_eq_true rfl) (Nat.le_of_ble_eq_true rfl) dX2_serve_40 (fun q5 H hP hD hS => ?_)
    have hP : va_P dD vwCl ((xW cI cR cS x0 b ra sb hd ol σ) ++ [(q5, .inr (1, [.int 0, .int 0, .int 0, .int 0]))]) H := hP
    have hD : va_D A ((xW cI cR cS x0 b ra sb hd ol σ) ++ [(q5, .inr (1, [.int 0, .int 0, .int 0, .int 0]))]) := hD
    have hAH : ∀ q : Nat, H.size ≤ q → A q := fun q h => hA q (Nat.le_trans hS.1 h)
    have hFc := fr_freeR (w1 := [(q5, .inr (1, [.int 0, .int 0, .int 0, .int 0]))]) hD hAH
    refine lv_dup hx hb dX2_serve_43 rfl ?_
    refine lv_iload_n hx hb dX2_serve_44 rfl (lv_at hl 2 rfl) ?_
    refine lv_iload_n hx hb dX2_serve_45 rfl (lv_at hl 3 rfl) ?_
    refine lv_aload_n hx hb dX2_serve_46 rfl (lv_at hl 1 rfl) ?_
    refine va_get (D := dD) (ci := 2) (v := .int (nI (s_now σ))) (C := RX2) (T := TX2) (N := 9) hx hb hts hinX2 hown hK hP 0 rfl rfl 0 (by decide) (hts (.fieldLink RX2 35 "FeatureStore" "now" "I") (by decide +kernel)) (fun _ h9 => h9) rfl dX2_serve_47 ?_
    refine lv_iload_n hx hb dX2_serve_50 rfl (lv_at hl 0 rfl) ?_
    refine va_callv (va_runI (As := [.int (nI fn), .int (nI en), .int (nI (s_now σ)), .int (eN (q_fr σ (s_cp σ (10 * fn + en)) (s_now σ)))]) (rest := [.ref q5, .int (nI (s_k σ)), .ref (b 4)]) ⟨hx, hb, hml, hown, hts⟩ (c_X1_init l dD cI cR cS lo H.size q5 (nI fn) (nI en) (nI (s_now σ)) (eN (q_fr σ (s_cp σ (10 * fn + en)) (s_now σ)))) (cwI 4 hts gX2_serve_X1_init rfl rfl rfl (hts (.initialized RX1) (by decide +kernel)) (hts (.methodLink RX2 119 yX1_init) (by decide +kernel)) (hts (.instanceMethod yX1_init) (by decide +kernel)) rfl (by decide +kernel) ⟨Nat.le_of_ble_eq_true rfl, Nat.le_of_ble_eq_true rfl⟩) (ePreS hE (hS.mono hAlo) ⟨rfl, vP_app2 hP, vD_mono (vD_app2 hD) (fun _ _ => trivial)⟩) rfl rfl hl.1 rfl (lv_room (Nat.le_of_ble_eq_true rfl)) dX2_serve_51 ⟨Nat.le_of_ble_eq_true rfl, Nat.le_of_ble_eq_true rfl⟩) hS (fun q _ h => hFc q h) hFc (fun u_ t_ H1 locs ht_ hvm_ hw_ hB_ hz_ hk_ hS => ?_)
    obtain ⟨hP, hD⟩ := fr_joinR (w1' := [(q5, .inr (1, [.int (nI fn), .int (nI en), .int (nI (s_now σ)), .int (eN (q_fr σ (s_cp σ (10 * fn + en)) (s_now σ)))]))]) hP hD hAH hk_ (by rw [← ht_]; exact hB_) (va_D_fst (vD_app2 hD).self rfl)
    have hAH : ∀ q : Nat, H1.size ≤ q → A q := fun q h => hA q (Nat.le_trans hS.1 h)
    have hPn := vP_perm (xNewS (by omega) (by omega)) hP
    have hDn := vD_perm (xNewS (by omega) (by omega)) hD
    obtain ⟨sb', hsb⟩ : ∃ z, z = uN sb (s_k σ) q5 := ⟨_, rfl⟩
    rw [← hsb] at hPn hDn
    have hq5 : sb' (s_k σ) = q5 := by rw [hsb, uN_s]
    clear hFc
    subst hq5
    have hP := hPn
    have hD := hDn
    refine nq_aast (q0 := 5) (t0 := 2) (qk := s_n σ + s_k σ + 6) (ci := 1) (r := (RX1, TX1, 4)) (fun j => if j < s_k σ then some (sb' j) else none) (fun j => if j < s_k σ + 1 then some (sb' j) else none) hx hb hK hP hD hS rfl rfl (pool_srv (Nat.lt_succ_self _)) rfl (by omega) (by decide) upP dX2_serve_54 (fun H locs hP hD hS => ?_)
    have hP : va_P dD vwCl ((x0, .inr (2, [.int (nI (s_now σ)), .ref (b 0), .ref (b 1), .int (nI (s_n σ)), .ref (b 2), .ref (b 3), .int (nI (s_tk σ)), .ref (b 4), .int (nI (s_k σ))])) :: (b 0, .inl (cI, 6, .inl (fun j => nI (s_lt σ j)))) :: (b 1, .inl (cR, 200, .inr (.inr (.inr (.inr (fun j => if j < s_n σ then some (ra j) else none)))))) :: (b 2, .inl (cR, 60, .inr (.inr (.inr (.inr (fun j => rfN ra (hd j))))))) :: (b 3, .inl (cR, 60, .inr (.inr (.inr (.inr (fun j => rfN ra (s_cp σ j))))))) :: (b 4, .inl (cS, 200, .inr (.inr (.inr (.inr (fun j => if j < s_k σ + 1 then some ((sb') j) else none)))))) :: (poolE ra sb' ol (g_serve σ (10 * fn + en)) (s_n σ) (s_k σ + 1))) H := hP
    have hD : va_D A ((x0, .inr (2, [.int (nI (s_now σ)), .ref (b 0), .ref (b 1), .int (nI (s_n σ)), .ref (b 2), .ref (b 3), .int (nI (s_tk σ)), .ref (b 4), .int (nI (s_k σ))])) :: (b 0, .inl (cI, 6, .inl (fun j => nI (s_lt σ j)))) :: (b 1, .inl (cR, 200, .inr (.inr (.inr (.inr (fun j => if j < s_n σ then some (ra j) else none)))))) :: (b 2, .inl (cR, 60, .inr (.inr (.inr (.inr (fun j => rfN ra (hd j))))))) :: (b 3, .inl (cR, 60, .inr (.inr (.inr (.inr (fun j => rfN ra (s_cp σ j))))))) :: (b 4, .inl (cS, 200, .inr (.inr (.inr (.inr (fun j => if j < s_k σ + 1 then some ((sb') j) else none)))))) :: (poolE ra sb' ol (g_serve σ (10 * fn + en)) (s_n σ) (s_k σ + 1))) := hD
    refine lv_aload_n hx hb dX2_serve_55 rfl (lv_at hl 1 rfl) ?_
    refine lv_dup hx hb dX2_serve_56 rfl ?_
    refine va_get (D := dD) (ci := 2) (v := .int (nI (s_k σ))) (C := RX2) (T := TX2) (N := 9) hx hb hts hinX2 hown hK hP 0 rfl rfl 8 (by decide) (hts (.fieldLink RX2 114 "FeatureStore" "servingCount" "I") (by decide +kernel)) (fun _ h9 => h9) rfl dX2_serve_57 ?_
    refine lv_iconst (v := nI 1) hx hb dX2_serve_60 (by decide +kernel) ?_
    refine nv_iadd hx hb dX2_serve_61 ?_
    refine va_put (D := dD) (ci := 2) (v := .int (nI ((s_k σ) + 1))) (ty := .int) (C := RX2) (T := TX2) (N := 9) hx hb hts hinX2 tyX2 tyX2_ok nmX2 hown hK hP hD hS 0 rfl rfl 8 (by decide) (hts (.fieldLink RX2 114 "FeatureStore" "servingCount" "I") (by decide +kernel)) (fun _ h9 => h9) rfl (by decide +kernel) rfl rfl (Nat.le_of_ble_eq_true rfl) dX2_serve_62 (fun H locs hP hD hS => ?_)
    have hP : va_P dD vwCl ((x0, .inr (2, [.int (nI (s_now σ)), .ref (b 0), .ref (b 1), .int (nI (s_n σ)), .ref (b 2), .ref (b 3), .int (nI (s_tk σ)), .ref (b 4), .int (nI ((s_k σ) + 1))])) :: (b 0, .inl (cI, 6, .inl (fun j => nI (s_lt σ j)))) :: (b 1, .inl (cR, 200, .inr (.inr (.inr (.inr (fun j => if j < s_n σ then some (ra j) else none)))))) :: (b 2, .inl (cR, 60, .inr (.inr (.inr (.inr (fun j => rfN ra (hd j))))))) :: (b 3, .inl (cR, 60, .inr (.inr (.inr (.inr (fun j => rfN ra (s_cp σ j))))))) :: (b 4, .inl (cS, 200, .inr (.inr (.inr (.inr (fun j => if j < s_k σ + 1 then some ((sb') j) else none)))))) :: (poolE ra sb' ol (g_serve σ (10 * fn + en)) (s_n σ) (s_k σ + 1))) H := hP
    have hD : va_D A ((x0, .inr (2, [.int (nI (s_now σ)), .ref (b 0), .ref (b 1), .int (nI (s_n σ)), .ref (b 2), .ref (b 3), .int (nI (s_tk σ)), .ref (b 4), .int (nI ((s_k σ) + 1))])) :: (b 0, .inl (cI, 6, .inl (fun j => nI (s_lt σ j)))) :: (b 1, .inl (cR, 200, .inr (.inr (.inr (.inr (fun j => if j < s_n σ then some (ra j) else none)))))) :: (b 2, .inl (cR, 60, .inr (.inr (.inr (.inr (fun j => rfN ra (hd j))))))) :: (b 3, .inl (cR, 60, .inr (.inr (.inr (.inr (fun j => rfN ra (s_cp σ j))))))) :: (b 4, .inl (cS, 200, .inr (.inr (.inr (.inr (fun j => if j < s_k σ + 1 then some ((sb') j) else none)))))) :: (poolE ra sb' ol (g_serve σ (10 * fn + en)) (s_n σ) (s_k σ + 1))) := hD
    refine lv_iload_n hx hb dX2_serve_65 rfl (lv_at hl 0 rfl) ?_
    exact vx_ret (W.widen (k := 3) (n := 18) (by decide) (by decide) (W.iret (v := eN (q_fr σ (s_cp σ (10 * fn + en)) (s_now σ))) hx hb hr (fun u9 hu9 hW => ⟨⟨eN (q_fr σ (s_cp σ (10 * fn + en)) (s_now σ)), ((g_serve σ (10 * fn + en)), sb'), rfl, ⟨⟨hr_2, by omega⟩, by rw [plN, cl_nI (by omega), cl_nI (by omega)], by rw [plN, cl_nI (by omega), cl_nI (by omega)]⟩, by have h9 := hP; rw [← hu9] at h9; exact ⟨h9, hAe ▸ hD⟩⟩, hS.F hu9⟩) hS.2.2 dX2_serve_66))
  · exact nx_throw hx hb hfl hown hml hnt hlocks hts (by decide +kernel) (by decide +kernel) bad_ise ot_ise hE hE.1.2.2.2.1 hl dX2_serve_15 dX2_serve_18 dX2_serve_19 dX2_serve_21 dX2_serve_24 (Nat.le_of_ble_eq_true rfl) (Nat.le_of_ble_eq_true rfl) (Nat.le_of_ble_eq_true rfl) (Nat.le_of_ble_eq_true rfl) (Or.inr ⟨rfl, hr_2, by omega⟩) (by decide) (by decide)
end
section
/-! the state of a new object -/
def lt0 (i : Nat) : Nat → Nat := fun j => if j < i then 10000 else 0
theorem lt0_zero : lt0 0 = fun _ => 0 := by funext j; simp [lt0]
theorem lt0_step (i : Nat) : uN (lt0 i) i 10000 = lt0 (i + 1) := by
  funext j
  by_cases h : j = i
  · subst h; rw [uN_s]; simp [lt0]
  · rw [uN_n h]
    unfold lt0
    by_cases h2 : j < i
    · rw [if_pos h2, if_pos (by omega)]
    · rw [if_neg h2, if_neg (by omega)]
def σ_0 : St := setS (setS (fun _ _ => 0) 4 (lt0 6)) 12 (fun _ => 1)
theorem sI_0 : sI σ_0 := by
  refine ⟨Nat.zero_le _, Nat.zero_le _, Nat.le_refl _, Nat.zero_le _, fun f hf => ?_, fun r hr => absurd hr (Nat.not_lt_zero r), fun q _ => ⟨Nat.le_refl _, fun r hr => ?_⟩, fun i hi => absurd hi (Nat.not_lt_zero i)⟩
  · show lt0 6 f ≤ 10000
    unfold lt0
    split <;> omega
  · have h9 : (0 : Nat) = r + 1 := hr
    omega
theorem xI_0 : xI σ_0 (fun _ => 0) (fun _ => 0) := fun q _ => by
  show seg _ 0 (chn σ_0 q 0)
  rfl
theorem xJ_0 : xJ σ_0 (fun _ => 0) (fun _ => 0) := ⟨fun _ => Nat.le_refl _, fun _ => Nat.le_refl _, fun _ => Nat.le_refl _⟩
theorem kEqO {D : va_G} {cl : List vw_C} {tys : List (ClassId × FieldType)} {U : State} {C : String} {i j : Nat} {cA cB : ClassId} (h : va_K D cl tys U) (hi : tys[i]? = some (cA, .object C)) (hj : tys[j]? = some (cB, .object C)) : cB = cA := by
  obtain ⟨k1, c1, -, -, -, h1⟩ := (h.2 i _ hi).2
  obtain ⟨k2, c2, -, -, -, h2⟩ := (h.2 j _ hj).2
  exact Option.some.inj (h2.symm.trans h1)
theorem kEqI {D : va_G} {cl : List vw_C} {tys : List (ClassId × FieldType)} {U : State} {i j : Nat} {cA cB : ClassId} (h : va_K D cl tys U) (hi : tys[i]? = some (cA, .int)) (hj : tys[j]? = some (cB, .int)) : cB = cA := by
  have h1 : U.vm.findClass ("[" ++ (FieldType.int).toString) = some cA := (h.2 i _ hi).2
  have h2 : U.vm.findClass ("[" ++ (FieldType.int).toString) = some cB := (h.2 j _ hj).2
  exact Option.some.inj (h2.symm.trans h1)
theorem lt_chain : uN (uN (uN (uN (uN (uN (fun _ => 0) 0 10000) 1 10000) 2 10000) 3 10000) 4 10000) 5 10000 = lt0 6 := by
  rw [← lt0_zero, lt0_step, lt0_step, lt0_step, lt0_step, lt0_step, lt0_step]
end
section
/-! both constructors (laid by wip/whole/gen/xinit.py) -/
set_option maxHeartbeats 4000000 in
set_option maxRecDepth 100000 in
theorem c_X2_init (l : Launch) (dD : va_G) (sz x0 : Nat) : Met l yX2_init wsX2_init ({ frames := 1, cells := 5, slots := 526, locals := 12 }) (va_Pc [.ref x0] (fun U => U.heap.size = sz ∧ va_P dD vwCl [(x0, .inr (2, [.int (nI 0), .null, .null, .int (nI 0), .null, .null, .int (nI 0), .null, .int (nI 0)]))] U.heap ∧ va_K dD vwCl [] U ∧ va_D (fun _ => True) [(x0, .inr (2, [.int (nI 0), .null, .null, .int (nI 0), .null, .null, .int (nI 0), .null, .int (nI 0)]))] ∧ va_AO RX0 U ∧ va_AO RX1 U)) (va_Qv (fun (_ : (Nat → Nat) × ClassId × ClassId × ClassId) => True) (fun u t => va_P dD vwCl (xW u.2.1 u.2.2.1 u.2.2.2 x0 u.1 (fun _ => 0) (fun _ => 0) (fun _ => 0) (fun _ => 0) σ_0) t.heap ∧ va_K dD vwCl [(u.2.1, .int), (u.2.2.1, .object RX0), (u.2.2.2, .object RX1)] t ∧ va_D (va_A [(x0, .inr (2, [.int (nI 0), .null, .null, .int (nI 0), .null, .null, .int (nI 0), .null, .int (nI 0)]))] sz) (xW u.2.1 u.2.2.1 u.2.2.2 x0 u.1 (fun _ => 0) (fun _ => 0) (fun _ => 0) (fun _ => 0) σ_0)) (va_A [(x0, .inr (2, [.int (nI 0), .null, .null, .int (nI 0), .null, .null, .int (nI 0), .null, .int (nI 0)]))] sz)) 5 526 (va_A [(x0, .inr (2, [.int (nI 0), .null, .null, .int (nI 0), .null, .null, .int (nI 0), .null, .int (nI 0)]))] sz) := by
  refine Met.ofW (cc := cX2_init) (maxL := 2) (ret := none) (by decide) rfl ?_
  intro p e_ s m args below meth c s₁ B hml hv
  obtain ⟨rfl, hsz, hP, hK, hD0, hOX0, hOX1⟩ := hv
  have hx := B.exec
  have hb := B.bytes
  have hr := B.returns
  have hts := atoms_spec (ws := wsX2_init) B.pre
  have hown : s.vm.findClass RX2 = some m.cls := findClass_of_methodNamed B.named
  have hlocks := B.notSynchronized
  have hinX2 : ∀ w ∈ u_ws RX2 TX2 9, w ∈ wsX2_init := by decide +kernel
  
  have hin : meth.name = "<init>" := (name_of_methodNamed B.named B.method).1
  subst hsz
  have hD := hD0.self (sz := s.heap.size)
  generalize hAe : va_A [(x0, .inr (2, [.int (nI 0), .null, .null, .int (nI 0), .null, .null, .int (nI 0), .null, .int (nI 0)]))] s.heap.size = A at hD ⊢
  have hA : ∀ q : Nat, s.heap.size ≤ q → A q := fun q h => by rw [← hAe]; exact Or.inr h
  have hS : va_S A s.heap s.heap [] := va_S.rf
  have hP : va_P dD vwCl [(x0, .inr (2, [.int (nI 0), .null, .null, .int (nI 0), .null, .null, .int (nI 0), .null, .int (nI 0)]))] s.heap := hP
  have hl := lv_entry ([.ref x0]) (n := 2) (Nat.le_of_ble_eq_true rfl)
  rw [lg_entry_eq]
  generalize (lg_sl ([.ref x0]) ++ List.replicate (2 - (lg_sl ([.ref x0])).length) Slot.unset).toArray = ls at hl ⊢
  have hl : lv_has ls 2 [(0, .ref x0)] := hl
  refine lv_aload_n hx hb dX2_init_0 rfl (lv_at hl 0 rfl) ?_
  refine W.objInit hx hb hown (hts (.methodLink RX2 1 objectInit) (by decide +kernel)) (hts (.instanceMethod objectInit) (by decide +kernel)) (hts (.code objectInit ⟨#[0xb1]⟩ 1 none) (by decide +kernel)) rfl (by rw [hml]; exact hl.1) rfl dX2_init_1 (Nat.le_of_ble_eq_true rfl) (Nat.le_of_ble_eq_true rfl) ?_
  refine W.eq (g2 := F0 m 4 ls []) rfl ?_
  refine lv_aload_n hx hb dX2_init_4 rfl (lv_at hl 0 rfl) ?_
  refine lv_bipush (v := nI 6) hx hb dX2_init_5 (by decide +kernel) ?_
  refine va_newa (atype := .int) hx hb (hts (.arrayClass .int) (by decide +kernel)) rfl hK hP hD hS hA (n := nI 6) (N' := 6) (a0 := (6, .inl (fun _ => nI 0))) (fun cA => rfl) (by decide +kernel) (by decide +kernel) (Nat.le_of_ble_eq_true rfl) (Nat.le_of_ble_eq_true rfl) (Nat.le_of_ble_eq_true rfl) dX2_init_7 (fun q0 cA H hK2 hP hD hS => ?_)
  obtain ⟨cI, hcI⟩ : ∃ z, z = cA := ⟨_, rfl⟩
  subst hcI
  have hK : va_K dD vwCl [(cI, .int)] s := hK2
  have hP : va_P dD vwCl [(x0, .inr (2, [.int (nI 0), .null, .null, .int (nI 0), .null, .null, .int (nI 0), .null, .int (nI 0)])), (q0, .inl (cI, 6, .inl (fun j => nI ((fun _ => 0) j))))] H := hP
  have hD : va_D A [(x0, .inr (2, [.int (nI 0), .null, .null, .int (nI 0), .null, .null, .int (nI 0), .null, .int (nI 0)])), (q0, .inl (cI, 6, .inl (fun j => nI ((fun _ => 0) j))))] := hD
  refine va_putF (D := dD) (ci := 2) (v := .ref q0) (ty := (tyX2 1)) (C := RX2) (T := TX2) (N := 9) hx hb hts hinX2 tyX2 tyX2_ok nmX2 hown hK hP hD hS 0 rfl rfl 1 (by decide) (hts (.fieldLink RX2 9 "FeatureStore" "lifetimes" "[I") (by decide +kernel)) (fun _ h9 => h9) rfl hin rfl (by decide +kernel) rfl rfl (Nat.le_of_ble_eq_true rfl) dX2_init_9 (fun H locs hP hD hS => ?_)
  have hP : va_P dD vwCl [(x0, .inr (2, [.int (nI 0), .ref q0, .null, .int (nI 0), .null, .null, .int (nI 0), .null, .int (nI 0)])), (q0, .inl (cI, 6, .inl (fun j => nI ((fun _ => 0) j))))] H := hP
  have hD : va_D A [(x0, .inr (2, [.int (nI 0), .ref q0, .null, .int (nI 0), .null, .null, .int (nI 0), .null, .int (nI 0)])), (q0, .inl (cI, 6, .inl (fun j => nI ((fun _ => 0) j))))] := hD
  refine lv_iconst (v := nI 0) hx hb dX2_init_12 (by decide +kernel) ?_
  refine lv_istore_n (lv' := [(1, .int (nI 0)), (0, .ref x0)]) hx hb dX2_init_13 rfl hl (by decide) rfl (fun ls hl => ?_)
  rw [show (fun j : Nat => nI ((fun _ => 0 : Nat → Nat) j)) = fun j => nI (lt0 0 j) from by rw [lt0_zero]] at hP hD
  have hP : va_P dD vwCl [(x0, .inr (2, [.int (nI 0), .ref q0, .null, .int (nI 0), .null, .null, .int (nI 0), .null, .int (nI 0)])), (q0, .inl (cI, 6, .inl (fun j => nI (lt0 0 j))))] H := hP
  have hD : va_D A [(x0, .inr (2, [.int (nI 0), .ref q0, .null, .int (nI 0), .null, .null, .int (nI 0), .null, .int (nI 0)])), (q0, .inl (cI, 6, .inl (fun j => nI (lt0 0 j))))] := hD
  refine W.widen (k := 1) (n := 6) (by decide) (by decide) ?_
  have hlp : ∀ (d i : Nat), i ≤ 6 → 6 < i + d → ∀ (H : Heap) (locs : List Loc), va_P dD vwCl [(x0, .inr (2, [.int (nI 0), .ref q0, .null, .int (nI 0), .null, .null, .int (nI 0), .null, .int (nI 0)])), (q0, .inl (cI, 6, .inl (fun j => nI (lt0 i j))))] H → va_D A [(x0, .inr (2, [.int (nI 0), .ref q0, .null, .int (nI 0), .null, .null, .int (nI 0), .null, .int (nI 0)])), (q0, .inl (cI, 6, .inl (fun j => nI (lt0 i j))))] → va_S A s.heap H locs → ∀ (ls : Array Slot), lv_has ls 2 [(0, .ref x0), (1, .int (nI i))] → W p l e_ (headSpec wsX2_init ({ frames := 1, cells := 5, slots := 526, locals := 12 })).room s m (([.ref x0] : List Value).toArray) below meth c H locs 1 6 (MQ below (va_Qv (fun (_ : (Nat → Nat) × ClassId × ClassId × ClassId) => True) (fun u t => va_P dD vwCl (xW u.2.1 u.2.2.1 u.2.2.2 x0 u.1 (fun _ => 0) (fun _ => 0) (fun _ => 0) (fun _ => 0) σ_0) t.heap ∧ va_K dD vwCl [(u.2.1, .int), (u.2.2.1, .object RX0), (u.2.2.2, .object RX1)] t ∧ va_D A (xW u.2.1 u.2.2.1 u.2.2.2 x0 u.1 (fun _ => 0) (fun _ => 0) (fun _ => 0) (fun _ => 0) σ_0)) A) (([.ref x0] : List Value).toArray) s 5 526 A) (F0 m 14 ls []) := by
    intro d
    induction d with
    | zero =>
      intro i h1 h2 H locs hP hD hS ls hl
      exact absurd h2 (by omega)
    | succ d ih =>
      intro i h1 h2 H locs hP hD hS ls hl
      refine lv_iload_n hx hb dX2_init_14 rfl (lv_at hl 1 rfl) ?_
      refine lv_bipush (v := nI 6) hx hb dX2_init_15 (by decide +kernel) ?_
      refine nv_ge (tgt := 35) hx hb dX2_init_17 (by decide) (by omega) (by omega) (fun c_17 => ?_) (fun c_17 => ?_)
      · have hre : i = 6 := by omega
        subst hre
        have hP : va_P dD vwCl [(x0, .inr (2, [.int (nI 0), .ref q0, .null, .int (nI 0), .null, .null, .int (nI 0), .null, .int (nI 0)])), (q0, .inl (cI, 6, .inl (fun j => nI (lt0 6 j))))] H := hP
        have hD : va_D A [(x0, .inr (2, [.int (nI 0), .ref q0, .null, .int (nI 0), .null, .null, .int (nI 0), .null, .int (nI 0)])), (q0, .inl (cI, 6, .inl (fun j => nI (lt0 6 j))))] := hD
        have hl : lv_has ls 2 [(0, .ref x0)] := lv_sub hl [0] rfl
        refine lv_aload_n hx hb dX2_init_35 rfl (lv_at hl 0 rfl) ?_
        refine lv_sipush (v := nI 200) hx hb dX2_init_36 (by decide +kernel) ?_
        refine va_newq hx hb hown (hts (.classLink RX2 13 RX0) (by decide +kernel)) hOX0 hK hP hD hS hA (n := nI 200) (N' := 200) (by decide +kernel) (by decide +kernel) (Nat.le_of_ble_eq_true rfl) (Nat.le_of_ble_eq_true rfl) (Nat.le_of_ble_eq_true rfl) dX2_init_39 (fun q1 cA H hK2 hP hD hS => ?_)
        obtain ⟨cR, hcI⟩ : ∃ z, z = cA := ⟨_, rfl⟩
        subst hcI
        have hK : va_K dD vwCl [(cI, .int), (cR, .object RX0)] s := hK2
        have hP : va_P dD vwCl [(x0, .inr (2, [.int (nI 0), .ref q0, .null, .int (nI 0), .null, .null, .int (nI 0), .null, .int (nI 0)])), (q0, .inl (cI, 6, .inl (fun j => nI (lt0 6 j)))), (q1, .inl (cR, 200, .inr (.inr (.inr (.inr (fun _ => none))))))] H := hP
        have hD : va_D A [(x0, .inr (2, [.int (nI 0), .ref q0, .null, .int (nI 0), .null, .null, .int (nI 0), .null, .int (nI 0)])), (q0, .inl (cI, 6, .inl (fun j => nI (lt0 6 j)))), (q1, .inl (cR, 200, .inr (.inr (.inr (.inr (fun _ => none))))))] := hD
        refine va_putF (D := dD) (ci := 2) (v := .ref q1) (ty := (tyX2 2)) (C := RX2) (T := TX2) (N := 9) hx hb hts hinX2 tyX2 tyX2_ok nmX2 hown hK hP hD hS 0 rfl rfl 2 (by decide) (hts (.fieldLink RX2 15 "FeatureStore" "rows" "[LFeatureStore$Row;") (by decide +kernel)) (fun _ h9 => h9) rfl hin rfl (by decide +kernel) rfl rfl (Nat.le_of_ble_eq_true rfl) dX2_init_42 (fun H locs hP hD hS => ?_)
        have hP : va_P dD vwCl [(x0, .inr (2, [.int (nI 0), .ref q0, .ref q1, .int (nI 0), .null, .null, .int (nI 0), .null, .int (nI 0)])), (q0, .inl (cI, 6, .inl (fun j => nI (lt0 6 j)))), (q1, .inl (cR, 200, .inr (.inr (.inr (.inr (fun _ => none))))))] H := hP
        have hD : va_D A [(x0, .inr (2, [.int (nI 0), .ref q0, .ref q1, .int (nI 0), .null, .null, .int (nI 0), .null, .int (nI 0)])), (q0, .inl (cI, 6, .inl (fun j => nI (lt0 6 j)))), (q1, .inl (cR, 200, .inr (.inr (.inr (.inr (fun _ => none))))))] := hD
        refine lv_aload_n hx hb dX2_init_45 rfl (lv_at hl 0 rfl) ?_
        refine lv_bipush (v := nI 60) hx hb dX2_init_46 (by decide +kernel) ?_
        refine va_newq hx hb hown (hts (.classLink RX2 13 RX0) (by decide +kernel)) hOX0 hK hP hD hS hA (n := nI 60) (N' := 60) (by decide +kernel) (by decide +kernel) (Nat.le_of_ble_eq_true rfl) (Nat.le_of_ble_eq_true rfl) (Nat.le_of_ble_eq_true rfl) dX2_init_48 (fun q2 cA H hK2 hP hD hS => ?_)
        have hcA : cR = cA := (kEqO (i := 1) (j := 2) hK2 rfl rfl).symm
        subst hcA
        have hP : va_P dD vwCl [(x0, .inr (2, [.int (nI 0), .ref q0, .ref q1, .int (nI 0), .null, .null, .int (nI 0), .null, .int (nI 0)])), (q0, .inl (cI, 6, .inl (fun j => nI (lt0 6 j)))), (q1, .inl (cR, 200, .inr (.inr (.inr (.inr (fun _ => none)))))), (q2, .inl (cR, 60, .inr (.inr (.inr (.inr (fun _ => none))))))] H := hP
        have hD : va_D A [(x0, .inr (2, [.int (nI 0), .ref q0, .ref q1, .int (nI 0), .null, .null, .int (nI 0), .null, .int (nI 0)])), (q0, .inl (cI, 6, .inl (fun j => nI (lt0 6 j)))), (q1, .inl (cR, 200, .inr (.inr (.inr (.inr (fun _ => none)))))), (q2, .inl (cR, 60, .inr (.inr (.inr (.inr (fun _ => none))))))] := hD
        refine va_putF (D := dD) (ci := 2) (v := .ref q2) (ty := (tyX2 4)) (C := RX2) (T := TX2) (N := 9) hx hb hts hinX2 tyX2 tyX2_ok nmX2 hown hK hP hD hS 0 rfl rfl 4 (by decide) (hts (.fieldLink RX2 19 "FeatureStore" "latest" "[LFeatureStore$Row;") (by decide +kernel)) (fun _ h9 => h9) rfl hin rfl (by decide +kernel) rfl rfl (Nat.le_of_ble_eq_true rfl) dX2_init_51 (fun H locs hP hD hS => ?_)
        have hP : va_P dD vwCl [(x0, .inr (2, [.int (nI 0), .ref q0, .ref q1, .int (nI 0), .ref q2, .null, .int (nI 0), .null, .int (nI 0)])), (q0, .inl (cI, 6, .inl (fun j => nI (lt0 6 j)))), (q1, .inl (cR, 200, .inr (.inr (.inr (.inr (fun _ => none)))))), (q2, .inl (cR, 60, .inr (.inr (.inr (.inr (fun _ => none))))))] H := hP
        have hD : va_D A [(x0, .inr (2, [.int (nI 0), .ref q0, .ref q1, .int (nI 0), .ref q2, .null, .int (nI 0), .null, .int (nI 0)])), (q0, .inl (cI, 6, .inl (fun j => nI (lt0 6 j)))), (q1, .inl (cR, 200, .inr (.inr (.inr (.inr (fun _ => none)))))), (q2, .inl (cR, 60, .inr (.inr (.inr (.inr (fun _ => none))))))] := hD
        refine lv_aload_n hx hb dX2_init_54 rfl (lv_at hl 0 rfl) ?_
        refine lv_bipush (v := nI 60) hx hb dX2_init_55 (by decide +kernel) ?_
        refine va_newq hx hb hown (hts (.classLink RX2 13 RX0) (by decide +kernel)) hOX0 hK hP hD hS hA (n := nI 60) (N' := 60) (by decide +kernel) (by decide +kernel) (Nat.le_of_ble_eq_true rfl) (Nat.le_of_ble_eq_true rfl) (Nat.le_of_ble_eq_true rfl) dX2_init_57 (fun q3 cA H hK2 hP hD hS => ?_)
        have hcA : cR = cA := (kEqO (i := 1) (j := 2) hK2 rfl rfl).symm
        subst hcA
        have hP : va_P dD vwCl [(x0, .inr (2, [.int (nI 0), .ref q0, .ref q1, .int (nI 0), .ref q2, .null, .int (nI 0), .null, .int (nI 0)])), (q0, .inl (cI, 6, .inl (fun j => nI (lt0 6 j)))), (q1, .inl (cR, 200, .inr (.inr (.inr (.inr (fun _ => none)))))), (q2, .inl (cR, 60, .inr (.inr (.inr (.inr (fun _ => none)))))), (q3, .inl (cR, 60, .inr (.inr (.inr (.inr (fun _ => none))))))] H := hP
        have hD : va_D A [(x0, .inr (2, [.int (nI 0), .ref q0, .ref q1, .int (nI 0), .ref q2, .null, .int (nI 0), .null, .int (nI 0)])), (q0, .inl (cI, 6, .inl (fun j => nI (lt0 6 j)))), (q1, .inl (cR, 200, .inr (.inr (.inr (.inr (fun _ => none)))))), (q2, .inl (cR, 60, .inr (.inr (.inr (.inr (fun _ => none)))))), (q3, .inl (cR, 60, .inr (.inr (.inr (.inr (fun _ => none))))))] := hD
        refine va_putF (D := dD) (ci := 2) (v := .ref q3) (ty := (tyX2 5)) (C := RX2) (T := TX2) (N := 9) hx hb hts hinX2 tyX2 tyX2_ok nmX2 hown hK hP hD hS 0 rfl rfl 5 (by decide) (hts (.fieldLink RX2 22 "FeatureStore" "onlineCopy" "[LFeatureStore$Row;") (by decide +kernel)) (fun _ h9 => h9) rfl hin rfl (by decide +kernel) rfl rfl (Nat.le_of_ble_eq_true rfl) dX2_init_60 (fun H locs hP hD hS => ?_)
        have hP : va_P dD vwCl [(x0, .inr (2, [.int (nI 0), .ref q0, .ref q1, .int (nI 0), .ref q2, .ref q3, .int (nI 0), .null, .int (nI 0)])), (q0, .inl (cI, 6, .inl (fun j => nI (lt0 6 j)))), (q1, .inl (cR, 200, .inr (.inr (.inr (.inr (fun _ => none)))))), (q2, .inl (cR, 60, .inr (.inr (.inr (.inr (fun _ => none)))))), (q3, .inl (cR, 60, .inr (.inr (.inr (.inr (fun _ => none))))))] H := hP
        have hD : va_D A [(x0, .inr (2, [.int (nI 0), .ref q0, .ref q1, .int (nI 0), .ref q2, .ref q3, .int (nI 0), .null, .int (nI 0)])), (q0, .inl (cI, 6, .inl (fun j => nI (lt0 6 j)))), (q1, .inl (cR, 200, .inr (.inr (.inr (.inr (fun _ => none)))))), (q2, .inl (cR, 60, .inr (.inr (.inr (.inr (fun _ => none)))))), (q3, .inl (cR, 60, .inr (.inr (.inr (.inr (fun _ => none))))))] := hD
        refine lv_aload_n hx hb dX2_init_63 rfl (lv_at hl 0 rfl) ?_
        refine lv_sipush (v := nI 200) hx hb dX2_init_64 (by decide +kernel) ?_
        refine va_newq hx hb hown (hts (.classLink RX2 25 RX1) (by decide +kernel)) hOX1 hK hP hD hS hA (n := nI 200) (N' := 200) (by decide +kernel) (by decide +kernel) (Nat.le_of_ble_eq_true rfl) (Nat.le_of_ble_eq_true rfl) (Nat.le_of_ble_eq_true rfl) dX2_init_67 (fun q4 cA H hK2 hP hD hS => ?_)
        obtain ⟨cS, hcI⟩ : ∃ z, z = cA := ⟨_, rfl⟩
        subst hcI
        have hK : va_K dD vwCl [(cI, .int), (cR, .object RX0), (cS, .object RX1)] s := hK2
        have hP : va_P dD vwCl [(x0, .inr (2, [.int (nI 0), .ref q0, .ref q1, .int (nI 0), .ref q2, .ref q3, .int (nI 0), .null, .int (nI 0)])), (q0, .inl (cI, 6, .inl (fun j => nI (lt0 6 j)))), (q1, .inl (cR, 200, .inr (.inr (.inr (.inr (fun _ => none)))))), (q2, .inl (cR, 60, .inr (.inr (.inr (.inr (fun _ => none)))))), (q3, .inl (cR, 60, .inr (.inr (.inr (.inr (fun _ => none)))))), (q4, .inl (cS, 200, .inr (.inr (.inr (.inr (fun _ => none))))))] H := hP
        have hD : va_D A [(x0, .inr (2, [.int (nI 0), .ref q0, .ref q1, .int (nI 0), .ref q2, .ref q3, .int (nI 0), .null, .int (nI 0)])), (q0, .inl (cI, 6, .inl (fun j => nI (lt0 6 j)))), (q1, .inl (cR, 200, .inr (.inr (.inr (.inr (fun _ => none)))))), (q2, .inl (cR, 60, .inr (.inr (.inr (.inr (fun _ => none)))))), (q3, .inl (cR, 60, .inr (.inr (.inr (.inr (fun _ => none)))))), (q4, .inl (cS, 200, .inr (.inr (.inr (.inr (fun _ => none))))))] := hD
        refine va_putF (D := dD) (ci := 2) (v := .ref q4) (ty := (tyX2 7)) (C := RX2) (T := TX2) (N := 9) hx hb hts hinX2 tyX2 tyX2_ok nmX2 hown hK hP hD hS 0 rfl rfl 7 (by decide) (hts (.fieldLink RX2 27 "FeatureStore" "servings" "[LFeatureStore$Serving;") (by decide +kernel)) (fun _ h9 => h9) rfl hin rfl (by decide +kernel) rfl rfl (Nat.le_of_ble_eq_true rfl) dX2_init_70 (fun H locs hP hD hS => ?_)
        have hP : va_P dD vwCl [(x0, .inr (2, [.int (nI 0), .ref q0, .ref q1, .int (nI 0), .ref q2, .ref q3, .int (nI 0), .ref q4, .int (nI 0)])), (q0, .inl (cI, 6, .inl (fun j => nI (lt0 6 j)))), (q1, .inl (cR, 200, .inr (.inr (.inr (.inr (fun _ => none)))))), (q2, .inl (cR, 60, .inr (.inr (.inr (.inr (fun _ => none)))))), (q3, .inl (cR, 60, .inr (.inr (.inr (.inr (fun _ => none)))))), (q4, .inl (cS, 200, .inr (.inr (.inr (.inr (fun _ => none))))))] H := hP
        have hD : va_D A [(x0, .inr (2, [.int (nI 0), .ref q0, .ref q1, .int (nI 0), .ref q2, .ref q3, .int (nI 0), .ref q4, .int (nI 0)])), (q0, .inl (cI, 6, .inl (fun j => nI (lt0 6 j)))), (q1, .inl (cR, 200, .inr (.inr (.inr (.inr (fun _ => none)))))), (q2, .inl (cR, 60, .inr (.inr (.inr (.inr (fun _ => none)))))), (q3, .inl (cR, 60, .inr (.inr (.inr (.inr (fun _ => none)))))), (q4, .inl (cS, 200, .inr (.inr (.inr (.inr (fun _ => none))))))] := hD
        exact W.vret hx hb hr (fun u9 hu9 hW => ⟨⟨(fun k => [q0, q1, q2, q3, q4].getD k 0, cI, cR, cS), rfl, trivial, by have h9 := hP; rw [← hu9] at h9; exact ⟨h9, va_K.moved hW.alike hK, hAe ▸ hD⟩⟩, hS.F hu9⟩) hS.2.2 dX2_init_73
      · refine lv_aload_n hx hb dX2_init_20 rfl (lv_at hl 0 rfl) ?_
        refine va_get (D := dD) (ci := 2) (v := .ref q0) (C := RX2) (T := TX2) (N := 9) hx hb hts hinX2 hown hK hP 0 rfl rfl 1 (by decide) (hts (.fieldLink RX2 9 "FeatureStore" "lifetimes" "[I") (by decide +kernel)) (fun _ h9 => h9) rfl dX2_init_21 ?_
        refine lv_iload_n hx hb dX2_init_24 rfl (lv_at hl 1 rfl) ?_
        refine lv_sipush (v := nI 10000) hx hb dX2_init_25 (by decide +kernel) ?_
        refine nv_iast (q0 := 1) (t0 := 0) (lt0 i) hx hb hK hP hD hS rfl rfl (by omega) (by decide) dX2_init_28 (fun H locs hP hD hS => ?_)
        have hP : va_P dD vwCl [(x0, .inr (2, [.int (nI 0), .ref q0, .null, .int (nI 0), .null, .null, .int (nI 0), .null, .int (nI 0)])), (q0, .inl (cI, 6, .inl (fun j => nI ((uN (lt0 i) i 10000) j))))] H := hP
        have hD : va_D A [(x0, .inr (2, [.int (nI 0), .ref q0, .null, .int (nI 0), .null, .null, .int (nI 0), .null, .int (nI 0)])), (q0, .inl (cI, 6, .inl (fun j => nI ((uN (lt0 i) i 10000) j))))] := hD
        refine lv_iinc (v := nI (i + 1)) (lv' := [(1, .int (nI (i + 1))), (0, .ref x0)]) hx hb dX2_init_29 hl (k := 1) rfl (nv_inc _ 1) (by decide) rfl (fun ls hl => ?_)
        refine lv_goto (tgt := 14) hx hb dX2_init_32 (by decide) ?_
        rw [lt0_step] at hP hD
        exact ih (i + 1) (by omega) (by omega) H locs hP hD hS ls (lv_sub hl [1, 0] rfl)
  exact hlp 7 0 (by omega) (by omega) H locs hP hD hS ls (lv_sub hl [1, 0] rfl)
end
